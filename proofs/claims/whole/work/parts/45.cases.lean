/-! the law: its cases -/
theorem mlL_13 : Cond.methodLink RL 13 yX4_write ∈ BIG := bg (inT2 (List.mem_of_getElem? (i := 91) (by decide +kernel))) rfl
theorem clL_13 {R : Room} {s : State} {args : Array Value} {rm : Room} (hB : ∀ w ∈ BIG, w.before args s = true) (hrc : rm.cells = 0) (hrs : rm.slots = 0) (hR : rm.frames + 1 ≤ R.frames ∧ 8 + (2 + 11) + rm.locals ≤ R.locals) : CallW R s args RL RX4 13 yX4_write cX4_write 2 (some .int) (kX4_write :: BIG) rm 0 0 1 := cwV 1 hB (bgV mlL_13 imX4_write seX4_write iniX4 mcX4_write) rfl hrc hrs (by decide +kernel) hR
theorem mlL_17 : Cond.methodLink RL 17 yX5_write ∈ BIG := bg (inT4 (List.mem_of_getElem? (i := 64) (by decide +kernel))) rfl
theorem clL_17 {R : Room} {s : State} {args : Array Value} {rm : Room} (hB : ∀ w ∈ BIG, w.before args s = true) (hrc : rm.cells = 0) (hrs : rm.slots = 0) (hR : rm.frames + 1 ≤ R.frames ∧ 8 + (2 + 11) + rm.locals ≤ R.locals) : CallW R s args RL RX5 17 yX5_write cX5_write 2 (some .int) (kX5_write :: BIG) rm 0 0 1 := cwV 1 hB (bgV mlL_17 imX5_write seX5_write iniX5 mcX5_write) rfl hrc hrs (by decide +kernel) hR
theorem mlL_18 : Cond.methodLink RL 18 yX4_wipe ∈ BIG := bg (inT2 (List.mem_of_getElem? (i := 95) (by decide +kernel))) rfl
theorem clL_18 {R : Room} {s : State} {args : Array Value} {rm : Room} (hB : ∀ w ∈ BIG, w.before args s = true) (hrc : rm.cells = 0) (hrs : rm.slots = 0) (hR : rm.frames + 1 ≤ R.frames ∧ 8 + (2 + 11) + rm.locals ≤ R.locals) : CallW R s args RL RX4 18 yX4_wipe cX4_wipe 2 (some .int) (kX4_wipe :: BIG) rm 0 0 0 := cwV 0 hB (bgV mlL_18 imX4_wipe seX4_wipe iniX4 mcX4_wipe) rfl hrc hrs (by decide +kernel) hR
theorem mlL_22 : Cond.methodLink RL 22 yX5_wipe ∈ BIG := bg (inT4 (List.mem_of_getElem? (i := 71) (by decide +kernel))) rfl
theorem clL_22 {R : Room} {s : State} {args : Array Value} {rm : Room} (hB : ∀ w ∈ BIG, w.before args s = true) (hrc : rm.cells = 0) (hrs : rm.slots = 0) (hR : rm.frames + 1 ≤ R.frames ∧ 8 + (2 + 11) + rm.locals ≤ R.locals) : CallW R s args RL RX5 22 yX5_wipe cX5_wipe 2 (some .int) (kX5_wipe :: BIG) rm 0 0 0 := cwV 0 hB (bgV mlL_22 imX5_wipe seX5_wipe iniX5 mcX5_wipe) rfl hrc hrs (by decide +kernel) hR
theorem mlL_23 : Cond.methodLink RL 23 yX4_fault ∈ BIG := bg (inT2 (List.mem_of_getElem? (i := 99) (by decide +kernel))) rfl
theorem clL_23 {R : Room} {s : State} {args : Array Value} {rm : Room} (hB : ∀ w ∈ BIG, w.before args s = true) (hrc : rm.cells = 0) (hrs : rm.slots = 0) (hR : rm.frames + 1 ≤ R.frames ∧ 8 + (1 + 11) + rm.locals ≤ R.locals) : CallW R s args RL RX4 23 yX4_fault cX4_fault 1 (some .int) (kX4_fault :: BIG) rm 0 0 0 := cwV 0 hB (bgV mlL_23 imX4_fault seX4_fault iniX4 mcX4_fault) rfl hrc hrs (by decide +kernel) hR
theorem mlL_26 : Cond.methodLink RL 26 yX5_fault ∈ BIG := bg (inT4 (List.mem_of_getElem? (i := 75) (by decide +kernel))) rfl
theorem clL_26 {R : Room} {s : State} {args : Array Value} {rm : Room} (hB : ∀ w ∈ BIG, w.before args s = true) (hrc : rm.cells = 0) (hrs : rm.slots = 0) (hR : rm.frames + 1 ≤ R.frames ∧ 8 + (2 + 11) + rm.locals ≤ R.locals) : CallW R s args RL RX5 26 yX5_fault cX5_fault 2 (some .int) (kX5_fault :: BIG) rm 0 0 0 := cwV 0 hB (bgV mlL_26 imX5_fault seX5_fault iniX5 mcX5_fault) rfl hrc hrs (by decide +kernel) hR
theorem mlL_27 : Cond.methodLink RL 27 yX4_lay ∈ BIG := bg (inT2 (List.mem_of_getElem? (i := 103) (by decide +kernel))) rfl
theorem clL_27 {R : Room} {s : State} {args : Array Value} {rm : Room} (hB : ∀ w ∈ BIG, w.before args s = true) (hrc : rm.cells = 0) (hrs : rm.slots = 0) (hR : rm.frames + 1 ≤ R.frames ∧ 8 + (1 + 11) + rm.locals ≤ R.locals) : CallW R s args RL RX4 27 yX4_lay cX4_lay 1 (some .int) (kX4_lay :: BIG) rm 0 0 0 := cwV 0 hB (bgV mlL_27 imX4_lay seX4_lay iniX4 mcX4_lay) rfl hrc hrs (by decide +kernel) hR
theorem mlL_30 : Cond.methodLink RL 30 yX5_lay ∈ BIG := bg (inT4 (List.mem_of_getElem? (i := 114) (by decide +kernel))) rfl
theorem clL_30 {R : Room} {s : State} {args : Array Value} {rm : Room} (hB : ∀ w ∈ BIG, w.before args s = true) (hrc : rm.cells = 0) (hrs : rm.slots = 0) (hR : rm.frames + 1 ≤ R.frames ∧ 8 + (1 + 11) + rm.locals ≤ R.locals) : CallW R s args RL RX5 30 yX5_lay cX5_lay 1 (some .int) (kX5_lay :: BIG) rm 0 0 0 := cwV 0 hB (bgV mlL_30 imX5_lay seX5_lay iniX5 mcX5_lay) rfl hrc hrs (by decide +kernel) hR
theorem mlL_31 : Cond.methodLink RL 31 yX4_dead ∈ BIG := bg (inT2 (List.mem_of_getElem? (i := 115) (by decide +kernel))) rfl
theorem clL_31 {R : Room} {s : State} {args : Array Value} {rm : Room} (hB : ∀ w ∈ BIG, w.before args s = true) (hrc : rm.cells = 0) (hrs : rm.slots = 0) (hR : rm.frames + 1 ≤ R.frames ∧ 8 + (3 + 11) + rm.locals ≤ R.locals) : CallW R s args RL RX4 31 yX4_dead cX4_dead 3 (some .int) (kX4_dead :: BIG) rm 0 0 2 := cwV 2 hB (bgV mlL_31 imX4_dead seX4_dead iniX4 mcX4_dead) rfl hrc hrs (by decide +kernel) hR
theorem mlL_35 : Cond.methodLink RL 35 yX5_dead ∈ BIG := bg (inT4 (List.mem_of_getElem? (i := 119) (by decide +kernel))) rfl
theorem clL_35 {R : Room} {s : State} {args : Array Value} {rm : Room} (hB : ∀ w ∈ BIG, w.before args s = true) (hrc : rm.cells = 0) (hrs : rm.slots = 0) (hR : rm.frames + 1 ≤ R.frames ∧ 8 + (3 + 11) + rm.locals ≤ R.locals) : CallW R s args RL RX5 35 yX5_dead cX5_dead 3 (some .int) (kX5_dead :: BIG) rm 0 0 2 := cwV 2 hB (bgV mlL_35 imX5_dead seX5_dead iniX5 mcX5_dead) rfl hrc hrs (by decide +kernel) hR
theorem mlL_36 : Cond.methodLink RL 36 yX4_plot ∈ BIG := bg (inT2 (List.mem_of_getElem? (i := 135) (by decide +kernel))) rfl
theorem clL_36 {R : Room} {s : State} {args : Array Value} {rm : Room} (hB : ∀ w ∈ BIG, w.before args s = true) (hrc : rm.cells = 0) (hrs : rm.slots = 0) (hR : rm.frames + 1 ≤ R.frames ∧ 8 + (3 + 11) + rm.locals ≤ R.locals) : CallW R s args RL RX4 36 yX4_plot cX4_plot 3 (some .int) (kX4_plot :: BIG) rm 0 0 2 := cwV 2 hB (bgV mlL_36 imX4_plot seX4_plot iniX4 mcX4_plot) rfl hrc hrs (by decide +kernel) hR
theorem mlL_39 : Cond.methodLink RL 39 yX5_plot ∈ BIG := bg (inT4 (List.mem_of_getElem? (i := 133) (by decide +kernel))) rfl
theorem clL_39 {R : Room} {s : State} {args : Array Value} {rm : Room} (hB : ∀ w ∈ BIG, w.before args s = true) (hrc : rm.cells = 0) (hrs : rm.slots = 0) (hR : rm.frames + 1 ≤ R.frames ∧ 8 + (3 + 11) + rm.locals ≤ R.locals) : CallW R s args RL RX5 39 yX5_plot cX5_plot 3 (some .int) (kX5_plot :: BIG) rm 0 0 2 := cwV 2 hB (bgV mlL_39 imX5_plot seX5_plot iniX5 mcX5_plot) rfl hrc hrs (by decide +kernel) hR
theorem mlL_40 : Cond.methodLink RL 40 yX4_visitor ∈ BIG := bg (inT2 (List.mem_of_getElem? (i := 141) (by decide +kernel))) rfl
theorem clL_40 {R : Room} {s : State} {args : Array Value} {rm : Room} (hB : ∀ w ∈ BIG, w.before args s = true) (hrc : rm.cells = 0) (hrs : rm.slots = 0) (hR : rm.frames + 1 ≤ R.frames ∧ 8 + (3 + 11) + rm.locals ≤ R.locals) : CallW R s args RL RX4 40 yX4_visitor cX4_visitor 3 (some .int) (kX4_visitor :: BIG) rm 0 0 2 := cwV 2 hB (bgV mlL_40 imX4_visitor seX4_visitor iniX4 mcX4_visitor) rfl hrc hrs (by decide +kernel) hR
theorem mlL_43 : Cond.methodLink RL 43 yX5_visitor ∈ BIG := bg (inT4 (List.mem_of_getElem? (i := 144) (by decide +kernel))) rfl
theorem clL_43 {R : Room} {s : State} {args : Array Value} {rm : Room} (hB : ∀ w ∈ BIG, w.before args s = true) (hrc : rm.cells = 0) (hrs : rm.slots = 0) (hR : rm.frames + 1 ≤ R.frames ∧ 8 + (3 + 11) + rm.locals ≤ R.locals) : CallW R s args RL RX5 43 yX5_visitor cX5_visitor 3 (some .int) (kX5_visitor :: BIG) rm 0 0 2 := cwV 2 hB (bgV mlL_43 imX5_visitor seX5_visitor iniX5 mcX5_visitor) rfl hrc hrs (by decide +kernel) hR
theorem mlL_44 : Cond.methodLink RL 44 yX4_bury ∈ BIG := bg (inT2 (List.mem_of_getElem? (i := 158) (by decide +kernel))) rfl
theorem clL_44 {R : Room} {s : State} {args : Array Value} {rm : Room} (hB : ∀ w ∈ BIG, w.before args s = true) (hrc : rm.cells = 0) (hrs : rm.slots = 0) (hR : rm.frames + 1 ≤ R.frames ∧ 8 + (4 + 11) + rm.locals ≤ R.locals) : CallW R s args RL RX4 44 yX4_bury cX4_bury 4 (some .int) (kX4_bury :: BIG) rm 0 0 3 := cwV 3 hB (bgV mlL_44 imX4_bury seX4_bury iniX4 mcX4_bury) rfl hrc hrs (by decide +kernel) hR
theorem mlL_48 : Cond.methodLink RL 48 yX5_bury ∈ BIG := bg (inT4 (List.mem_of_getElem? (i := 148) (by decide +kernel))) rfl
theorem clL_48 {R : Room} {s : State} {args : Array Value} {rm : Room} (hB : ∀ w ∈ BIG, w.before args s = true) (hrc : rm.cells = 0) (hrs : rm.slots = 0) (hR : rm.frames + 1 ≤ R.frames ∧ 8 + (5 + 11) + rm.locals ≤ R.locals) : CallW R s args RL RX5 48 yX5_bury cX5_bury 5 (some .int) (kX5_bury :: BIG) rm 0 0 3 := cwV 3 hB (bgV mlL_48 imX5_bury seX5_bury iniX5 mcX5_bury) rfl hrc hrs (by decide +kernel) hR
theorem mlL_49 : Cond.methodLink RL 49 yX4_change ∈ BIG := bg (inT2 (List.mem_of_getElem? (i := 173) (by decide +kernel))) rfl
theorem clL_49 {R : Room} {s : State} {args : Array Value} {rm : Room} (hB : ∀ w ∈ BIG, w.before args s = true) (hrc : rm.cells = 0) (hrs : rm.slots = 0) (hR : rm.frames + 1 ≤ R.frames ∧ 8 + (4 + 11) + rm.locals ≤ R.locals) : CallW R s args RL RX4 49 yX4_change cX4_change 4 (some .int) (kX4_change :: BIG) rm 0 0 3 := cwV 3 hB (bgV mlL_49 imX4_change seX4_change iniX4 mcX4_change) rfl hrc hrs (by decide +kernel) hR
theorem mlL_52 : Cond.methodLink RL 52 yX5_change ∈ BIG := bg (inT4 (List.mem_of_getElem? (i := 168) (by decide +kernel))) rfl
theorem clL_52 {R : Room} {s : State} {args : Array Value} {rm : Room} (hB : ∀ w ∈ BIG, w.before args s = true) (hrc : rm.cells = 0) (hrs : rm.slots = 0) (hR : rm.frames + 1 ≤ R.frames ∧ 8 + (4 + 11) + rm.locals ≤ R.locals) : CallW R s args RL RX5 52 yX5_change cX5_change 4 (some .int) (kX5_change :: BIG) rm 0 0 3 := cwV 3 hB (bgV mlL_52 imX5_change seX5_change iniX5 mcX5_change) rfl hrc hrs (by decide +kernel) hR
theorem mlL_53 : Cond.methodLink RL 53 yX4_forgive ∈ BIG := bg (inT2 (List.mem_of_getElem? (i := 181) (by decide +kernel))) rfl
theorem clL_53 {R : Room} {s : State} {args : Array Value} {rm : Room} (hB : ∀ w ∈ BIG, w.before args s = true) (hrc : rm.cells = 0) (hrs : rm.slots = 0) (hR : rm.frames + 1 ≤ R.frames ∧ 8 + (4 + 11) + rm.locals ≤ R.locals) : CallW R s args RL RX4 53 yX4_forgive cX4_forgive 4 (some .int) (kX4_forgive :: BIG) rm 0 0 2 := cwV 2 hB (bgV mlL_53 imX4_forgive seX4_forgive iniX4 mcX4_forgive) rfl hrc hrs (by decide +kernel) hR
theorem mlL_56 : Cond.methodLink RL 56 yX5_forgive ∈ BIG := bg (inT4 (List.mem_of_getElem? (i := 176) (by decide +kernel))) rfl
theorem clL_56 {R : Room} {s : State} {args : Array Value} {rm : Room} (hB : ∀ w ∈ BIG, w.before args s = true) (hrc : rm.cells = 0) (hrs : rm.slots = 0) (hR : rm.frames + 1 ≤ R.frames ∧ 8 + (4 + 11) + rm.locals ≤ R.locals) : CallW R s args RL RX5 56 yX5_forgive cX5_forgive 4 (some .int) (kX5_forgive :: BIG) rm 0 0 2 := cwV 2 hB (bgV mlL_56 imX5_forgive seX5_forgive iniX5 mcX5_forgive) rfl hrc hrs (by decide +kernel) hR
theorem mlL_57 : Cond.methodLink RL 57 yX4_visit ∈ BIG := bg (inT2 (List.mem_of_getElem? (i := 189) (by decide +kernel))) rfl
theorem clL_57 {R : Room} {s : State} {args : Array Value} {rm : Room} (hB : ∀ w ∈ BIG, w.before args s = true) (hrc : rm.cells = 0) (hrs : rm.slots = 0) (hR : rm.frames + 1 ≤ R.frames ∧ 8 + (3 + 11) + rm.locals ≤ R.locals) : CallW R s args RL RX4 57 yX4_visit cX4_visit 3 (some .int) (kX4_visit :: BIG) rm 0 0 2 := cwV 2 hB (bgV mlL_57 imX4_visit seX4_visit iniX4 mcX4_visit) rfl hrc hrs (by decide +kernel) hR
theorem mlL_60 : Cond.methodLink RL 60 yX5_visit ∈ BIG := bg (inT4 (List.mem_of_getElem? (i := 180) (by decide +kernel))) rfl
theorem clL_60 {R : Room} {s : State} {args : Array Value} {rm : Room} (hB : ∀ w ∈ BIG, w.before args s = true) (hrc : rm.cells = 0) (hrs : rm.slots = 0) (hR : rm.frames + 1 ≤ R.frames ∧ 8 + (4 + 11) + rm.locals ≤ R.locals) : CallW R s args RL RX5 60 yX5_visit cX5_visit 4 (some .int) (kX5_visit :: BIG) rm 0 0 2 := cwV 2 hB (bgV mlL_60 imX5_visit seX5_visit iniX5 mcX5_visit) rfl hrc hrs (by decide +kernel) hR
theorem mlL_61 : Cond.methodLink RL 61 yX4_undo ∈ BIG := bg (inT2 (List.mem_of_getElem? (i := 195) (by decide +kernel))) rfl
theorem clL_61 {R : Room} {s : State} {args : Array Value} {rm : Room} (hB : ∀ w ∈ BIG, w.before args s = true) (hrc : rm.cells = 0) (hrs : rm.slots = 0) (hR : rm.frames + 1 ≤ R.frames ∧ 8 + (1 + 11) + rm.locals ≤ R.locals) : CallW R s args RL RX4 61 yX4_undo cX4_undo 1 (some .int) (kX4_undo :: BIG) rm 0 0 0 := cwV 0 hB (bgV mlL_61 imX4_undo seX4_undo iniX4 mcX4_undo) rfl hrc hrs (by decide +kernel) hR
theorem mlL_64 : Cond.methodLink RL 64 yX5_undo ∈ BIG := bg (inT4 (List.mem_of_getElem? (i := 184) (by decide +kernel))) rfl
theorem clL_64 {R : Room} {s : State} {args : Array Value} {rm : Room} (hB : ∀ w ∈ BIG, w.before args s = true) (hrc : rm.cells = 0) (hrs : rm.slots = 0) (hR : rm.frames + 1 ≤ R.frames ∧ 8 + (2 + 11) + rm.locals ≤ R.locals) : CallW R s args RL RX5 64 yX5_undo cX5_undo 2 (some .int) (kX5_undo :: BIG) rm 0 0 0 := cwV 0 hB (bgV mlL_64 imX5_undo seX5_undo iniX5 mcX5_undo) rfl hrc hrs (by decide +kernel) hR
theorem mlL_65 : Cond.methodLink RL 65 yX4_right ∈ BIG := bg (inT2 (List.mem_of_getElem? (i := 203) (by decide +kernel))) rfl
theorem clL_65 {R : Room} {s : State} {args : Array Value} {rm : Room} (hB : ∀ w ∈ BIG, w.before args s = true) (hrc : rm.cells = 0) (hrs : rm.slots = 0) (hR : rm.frames + 1 ≤ R.frames ∧ 8 + (2 + 11) + rm.locals ≤ R.locals) : CallW R s args RL RX4 65 yX4_right cX4_right 2 (some .int) (kX4_right :: BIG) rm 0 0 1 := cwV 1 hB (bgV mlL_65 imX4_right seX4_right iniX4 mcX4_right) rfl hrc hrs (by decide +kernel) hR
theorem mlL_68 : Cond.methodLink RL 68 yX5_right ∈ BIG := bg (inT4 (List.mem_of_getElem? (i := 188) (by decide +kernel))) rfl
theorem clL_68 {R : Room} {s : State} {args : Array Value} {rm : Room} (hB : ∀ w ∈ BIG, w.before args s = true) (hrc : rm.cells = 0) (hrs : rm.slots = 0) (hR : rm.frames + 1 ≤ R.frames ∧ 8 + (2 + 11) + rm.locals ≤ R.locals) : CallW R s args RL RX5 68 yX5_right cX5_right 2 (some .int) (kX5_right :: BIG) rm 0 0 1 := cwV 1 hB (bgV mlL_68 imX5_right seX5_right iniX5 mcX5_right) rfl hrc hrs (by decide +kernel) hR
theorem mlL_69 : Cond.methodLink RL 69 yX4_moved ∈ BIG := bg (inT2 (List.mem_of_getElem? (i := 215) (by decide +kernel))) rfl
theorem clL_69 {R : Room} {s : State} {args : Array Value} {rm : Room} (hB : ∀ w ∈ BIG, w.before args s = true) (hrc : rm.cells = 0) (hrs : rm.slots = 0) (hR : rm.frames + 1 ≤ R.frames ∧ 8 + (1 + 11) + rm.locals ≤ R.locals) : CallW R s args RL RX4 69 yX4_moved cX4_moved 1 (some .int) (kX4_moved :: BIG) rm 0 0 0 := cwV 0 hB (bgV mlL_69 imX4_moved seX4_moved iniX4 mcX4_moved) rfl hrc hrs (by decide +kernel) hR
theorem mlL_72 : Cond.methodLink RL 72 yX5_moved ∈ BIG := bg (inT4 (List.mem_of_getElem? (i := 196) (by decide +kernel))) rfl
theorem clL_72 {R : Room} {s : State} {args : Array Value} {rm : Room} (hB : ∀ w ∈ BIG, w.before args s = true) (hrc : rm.cells = 0) (hrs : rm.slots = 0) (hR : rm.frames + 1 ≤ R.frames ∧ 8 + (1 + 11) + rm.locals ≤ R.locals) : CallW R s args RL RX5 72 yX5_moved cX5_moved 1 (some .int) (kX5_moved :: BIG) rm 0 0 0 := cwV 0 hB (bgV mlL_72 imX5_moved seX5_moved iniX5 mcX5_moved) rfl hrc hrs (by decide +kernel) hR
theorem mlL_73 : Cond.methodLink RL 73 yX4_mend ∈ BIG := bg (inT2 (List.mem_of_getElem? (i := 223) (by decide +kernel))) rfl
theorem clL_73 {R : Room} {s : State} {args : Array Value} {rm : Room} (hB : ∀ w ∈ BIG, w.before args s = true) (hrc : rm.cells = 0) (hrs : rm.slots = 0) (hR : rm.frames + 1 ≤ R.frames ∧ 8 + (2 + 11) + rm.locals ≤ R.locals) : CallW R s args RL RX4 73 yX4_mend cX4_mend 2 (some .int) (kX4_mend :: BIG) rm 0 0 1 := cwV 1 hB (bgV mlL_73 imX4_mend seX4_mend iniX4 mcX4_mend) rfl hrc hrs (by decide +kernel) hR
theorem mlL_76 : Cond.methodLink RL 76 yX5_mend ∈ BIG := bg (inT4 (List.mem_of_getElem? (i := 204) (by decide +kernel))) rfl
theorem clL_76 {R : Room} {s : State} {args : Array Value} {rm : Room} (hB : ∀ w ∈ BIG, w.before args s = true) (hrc : rm.cells = 0) (hrs : rm.slots = 0) (hR : rm.frames + 1 ≤ R.frames ∧ 8 + (5 + 11) + rm.locals ≤ R.locals) : CallW R s args RL RX5 76 yX5_mend cX5_mend 5 (some .int) (kX5_mend :: BIG) rm 0 0 1 := cwV 1 hB (bgV mlL_76 imX5_mend seX5_mend iniX5 mcX5_mend) rfl hrc hrs (by decide +kernel) hR
theorem mlL_77 : Cond.methodLink RL 77 yX4_grudge ∈ BIG := bg (inT3 (List.mem_of_getElem? (i := 3) (by decide +kernel))) rfl
theorem clL_77 {R : Room} {s : State} {args : Array Value} {rm : Room} (hB : ∀ w ∈ BIG, w.before args s = true) (hrc : rm.cells = 0) (hrs : rm.slots = 0) (hR : rm.frames + 1 ≤ R.frames ∧ 8 + (5 + 11) + rm.locals ≤ R.locals) : CallW R s args RL RX4 77 yX4_grudge cX4_grudge 5 (some .int) (kX4_grudge :: BIG) rm 0 0 0 := cwV 0 hB (bgV mlL_77 imX4_grudge seX4_grudge iniX4 mcX4_grudge) rfl hrc hrs (by decide +kernel) hR
theorem mlL_80 : Cond.methodLink RL 80 yX5_grudge ∈ BIG := bg (inT4 (List.mem_of_getElem? (i := 208) (by decide +kernel))) rfl
theorem clL_80 {R : Room} {s : State} {args : Array Value} {rm : Room} (hB : ∀ w ∈ BIG, w.before args s = true) (hrc : rm.cells = 0) (hrs : rm.slots = 0) (hR : rm.frames + 1 ≤ R.frames ∧ 8 + (5 + 11) + rm.locals ≤ R.locals) : CallW R s args RL RX5 80 yX5_grudge cX5_grudge 5 (some .int) (kX5_grudge :: BIG) rm 0 0 0 := cwV 0 hB (bgV mlL_80 imX5_grudge seX5_grudge iniX5 mcX5_grudge) rfl hrc hrs (by decide +kernel) hR
theorem mlL_81 : Cond.methodLink RL 81 yX4_takes ∈ BIG := bg (inT3 (List.mem_of_getElem? (i := 7) (by decide +kernel))) rfl
theorem clL_81 {R : Room} {s : State} {args : Array Value} {rm : Room} (hB : ∀ w ∈ BIG, w.before args s = true) (hrc : rm.cells = 0) (hrs : rm.slots = 0) (hR : rm.frames + 1 ≤ R.frames ∧ 8 + (2 + 11) + rm.locals ≤ R.locals) : CallW R s args RL RX4 81 yX4_takes cX4_takes 2 (some .int) (kX4_takes :: BIG) rm 0 0 1 := cwV 1 hB (bgV mlL_81 imX4_takes seX4_takes iniX4 mcX4_takes) rfl hrc hrs (by decide +kernel) hR
theorem mlL_84 : Cond.methodLink RL 84 yX5_takes ∈ BIG := bg (inT4 (List.mem_of_getElem? (i := 212) (by decide +kernel))) rfl
theorem clL_84 {R : Room} {s : State} {args : Array Value} {rm : Room} (hB : ∀ w ∈ BIG, w.before args s = true) (hrc : rm.cells = 0) (hrs : rm.slots = 0) (hR : rm.frames + 1 ≤ R.frames ∧ 8 + (3 + 11) + rm.locals ≤ R.locals) : CallW R s args RL RX5 84 yX5_takes cX5_takes 3 (some .int) (kX5_takes :: BIG) rm 0 0 1 := cwV 1 hB (bgV mlL_84 imX5_takes seX5_takes iniX5 mcX5_takes) rfl hrc hrs (by decide +kernel) hR
theorem mlL_85 : Cond.methodLink RL 85 yX4_tour ∈ BIG := bg (inT3 (List.mem_of_getElem? (i := 51) (by decide +kernel))) rfl
theorem clL_85 {R : Room} {s : State} {args : Array Value} {rm : Room} (hB : ∀ w ∈ BIG, w.before args s = true) (hrc : rm.cells = 0) (hrs : rm.slots = 0) (hR : rm.frames + 1 ≤ R.frames ∧ 8 + (2 + 11) + rm.locals ≤ R.locals) : CallW R s args RL RX4 85 yX4_tour cX4_tour 2 (some .int) (kX4_tour :: BIG) rm 0 0 1 := cwV 1 hB (bgV mlL_85 imX4_tour seX4_tour iniX4 mcX4_tour) rfl hrc hrs (by decide +kernel) hR
theorem mlL_88 : Cond.methodLink RL 88 yX5_tour ∈ BIG := bg (inT4 (List.mem_of_getElem? (i := 235) (by decide +kernel))) rfl
theorem clL_88 {R : Room} {s : State} {args : Array Value} {rm : Room} (hB : ∀ w ∈ BIG, w.before args s = true) (hrc : rm.cells = 0) (hrs : rm.slots = 0) (hR : rm.frames + 1 ≤ R.frames ∧ 8 + (3 + 11) + rm.locals ≤ R.locals) : CallW R s args RL RX5 88 yX5_tour cX5_tour 3 (some .int) (kX5_tour :: BIG) rm 0 0 1 := cwV 1 hB (bgV mlL_88 imX5_tour seX5_tour iniX5 mcX5_tour) rfl hrc hrs (by decide +kernel) hR
theorem mlL_89 : Cond.methodLink RL 89 yX4_enough ∈ BIG := bg (inT3 (List.mem_of_getElem? (i := 82) (by decide +kernel))) rfl
theorem clL_89 {R : Room} {s : State} {args : Array Value} {rm : Room} (hB : ∀ w ∈ BIG, w.before args s = true) (hrc : rm.cells = 0) (hrs : rm.slots = 0) (hR : rm.frames + 1 ≤ R.frames ∧ 8 + (1 + 11) + rm.locals ≤ R.locals) : CallW R s args RL RX4 89 yX4_enough cX4_enough 1 (some .int) (kX4_enough :: BIG) rm 0 0 0 := cwV 0 hB (bgV mlL_89 imX4_enough seX4_enough iniX4 mcX4_enough) rfl hrc hrs (by decide +kernel) hR
theorem mlL_92 : Cond.methodLink RL 92 yX5_enough ∈ BIG := bg (inT5 (List.mem_of_getElem? (i := 8) (by decide +kernel))) rfl
theorem clL_92 {R : Room} {s : State} {args : Array Value} {rm : Room} (hB : ∀ w ∈ BIG, w.before args s = true) (hrc : rm.cells = 0) (hrs : rm.slots = 0) (hR : rm.frames + 1 ≤ R.frames ∧ 8 + (1 + 11) + rm.locals ≤ R.locals) : CallW R s args RL RX5 92 yX5_enough cX5_enough 1 (some .int) (kX5_enough :: BIG) rm 0 0 0 := cwV 0 hB (bgV mlL_92 imX5_enough seX5_enough iniX5 mcX5_enough) rfl hrc hrs (by decide +kernel) hR
theorem mlL_93 : Cond.methodLink RL 93 yX4_leave ∈ BIG := bg (inT3 (List.mem_of_getElem? (i := 86) (by decide +kernel))) rfl
theorem clL_93 {R : Room} {s : State} {args : Array Value} {rm : Room} (hB : ∀ w ∈ BIG, w.before args s = true) (hrc : rm.cells = 0) (hrs : rm.slots = 0) (hR : rm.frames + 1 ≤ R.frames ∧ 8 + (1 + 11) + rm.locals ≤ R.locals) : CallW R s args RL RX4 93 yX4_leave cX4_leave 1 (some .int) (kX4_leave :: BIG) rm 0 0 0 := cwV 0 hB (bgV mlL_93 imX4_leave seX4_leave iniX4 mcX4_leave) rfl hrc hrs (by decide +kernel) hR
theorem mlL_96 : Cond.methodLink RL 96 yX5_leave ∈ BIG := bg (inT5 (List.mem_of_getElem? (i := 12) (by decide +kernel))) rfl
theorem clL_96 {R : Room} {s : State} {args : Array Value} {rm : Room} (hB : ∀ w ∈ BIG, w.before args s = true) (hrc : rm.cells = 0) (hrs : rm.slots = 0) (hR : rm.frames + 1 ≤ R.frames ∧ 8 + (5 + 11) + rm.locals ≤ R.locals) : CallW R s args RL RX5 96 yX5_leave cX5_leave 5 (some .int) (kX5_leave :: BIG) rm 0 0 0 := cwV 0 hB (bgV mlL_96 imX5_leave seX5_leave iniX5 mcX5_leave) rfl hrc hrs (by decide +kernel) hR
theorem mlL_97 : Cond.methodLink RL 97 yX4_seen ∈ BIG := bg (inT3 (List.mem_of_getElem? (i := 95) (by decide +kernel))) rfl
theorem clL_97 {R : Room} {s : State} {args : Array Value} {rm : Room} (hB : ∀ w ∈ BIG, w.before args s = true) (hrc : rm.cells = 0) (hrs : rm.slots = 0) (hR : rm.frames + 1 ≤ R.frames ∧ 8 + (3 + 11) + rm.locals ≤ R.locals) : CallW R s args RL RX4 97 yX4_seen cX4_seen 3 (some .int) (kX4_seen :: BIG) rm 0 0 2 := cwV 2 hB (bgV mlL_97 imX4_seen seX4_seen iniX4 mcX4_seen) rfl hrc hrs (by decide +kernel) hR
theorem mlL_100 : Cond.methodLink RL 100 yX5_seen ∈ BIG := bg (inT5 (List.mem_of_getElem? (i := 19) (by decide +kernel))) rfl
theorem clL_100 {R : Room} {s : State} {args : Array Value} {rm : Room} (hB : ∀ w ∈ BIG, w.before args s = true) (hrc : rm.cells = 0) (hrs : rm.slots = 0) (hR : rm.frames + 1 ≤ R.frames ∧ 8 + (3 + 11) + rm.locals ≤ R.locals) : CallW R s args RL RX5 100 yX5_seen cX5_seen 3 (some .int) (kX5_seen :: BIG) rm 0 0 2 := cwV 2 hB (bgV mlL_100 imX5_seen seX5_seen iniX5 mcX5_seen) rfl hrc hrs (by decide +kernel) hR
theorem mlL_101 : Cond.methodLink RL 101 yX4_forget ∈ BIG := bg (inT3 (List.mem_of_getElem? (i := 99) (by decide +kernel))) rfl
theorem clL_101 {R : Room} {s : State} {args : Array Value} {rm : Room} (hB : ∀ w ∈ BIG, w.before args s = true) (hrc : rm.cells = 0) (hrs : rm.slots = 0) (hR : rm.frames + 1 ≤ R.frames ∧ 8 + (2 + 11) + rm.locals ≤ R.locals) : CallW R s args RL RX4 101 yX4_forget cX4_forget 2 (some .int) (kX4_forget :: BIG) rm 0 0 0 := cwV 0 hB (bgV mlL_101 imX4_forget seX4_forget iniX4 mcX4_forget) rfl hrc hrs (by decide +kernel) hR
theorem mlL_104 : Cond.methodLink RL 104 yX5_forget ∈ BIG := bg (inT5 (List.mem_of_getElem? (i := 23) (by decide +kernel))) rfl
theorem clL_104 {R : Room} {s : State} {args : Array Value} {rm : Room} (hB : ∀ w ∈ BIG, w.before args s = true) (hrc : rm.cells = 0) (hrs : rm.slots = 0) (hR : rm.frames + 1 ≤ R.frames ∧ 8 + (2 + 11) + rm.locals ≤ R.locals) : CallW R s args RL RX5 104 yX5_forget cX5_forget 2 (some .int) (kX5_forget :: BIG) rm 0 0 0 := cwV 0 hB (bgV mlL_104 imX5_forget seX5_forget iniX5 mcX5_forget) rfl hrc hrs (by decide +kernel) hR
theorem mlL_105 : Cond.methodLink RL 105 yX4_was ∈ BIG := bg (inT3 (List.mem_of_getElem? (i := 103) (by decide +kernel))) rfl
theorem clL_105 {R : Room} {s : State} {args : Array Value} {rm : Room} (hB : ∀ w ∈ BIG, w.before args s = true) (hrc : rm.cells = 0) (hrs : rm.slots = 0) (hR : rm.frames + 1 ≤ R.frames ∧ 8 + (4 + 11) + rm.locals ≤ R.locals) : CallW R s args RL RX4 105 yX4_was cX4_was 4 (some .int) (kX4_was :: BIG) rm 0 0 1 := cwV 1 hB (bgV mlL_105 imX4_was seX4_was iniX4 mcX4_was) rfl hrc hrs (by decide +kernel) hR
theorem mlL_108 : Cond.methodLink RL 108 yX5_was ∈ BIG := bg (inT5 (List.mem_of_getElem? (i := 27) (by decide +kernel))) rfl
theorem clL_108 {R : Room} {s : State} {args : Array Value} {rm : Room} (hB : ∀ w ∈ BIG, w.before args s = true) (hrc : rm.cells = 0) (hrs : rm.slots = 0) (hR : rm.frames + 1 ≤ R.frames ∧ 8 + (6 + 11) + rm.locals ≤ R.locals) : CallW R s args RL RX5 108 yX5_was cX5_was 6 (some .int) (kX5_was :: BIG) rm 0 0 1 := cwV 1 hB (bgV mlL_108 imX5_was seX5_was iniX5 mcX5_was) rfl hrc hrs (by decide +kernel) hR
theorem mlL_109 : Cond.methodLink RL 109 yX4_owed ∈ BIG := bg (inT3 (List.mem_of_getElem? (i := 111) (by decide +kernel))) rfl
theorem clL_109 {R : Room} {s : State} {args : Array Value} {rm : Room} (hB : ∀ w ∈ BIG, w.before args s = true) (hrc : rm.cells = 0) (hrs : rm.slots = 0) (hR : rm.frames + 1 ≤ R.frames ∧ 8 + (2 + 11) + rm.locals ≤ R.locals) : CallW R s args RL RX4 109 yX4_owed cX4_owed 2 (some .int) (kX4_owed :: BIG) rm 0 0 1 := cwV 1 hB (bgV mlL_109 imX4_owed seX4_owed iniX4 mcX4_owed) rfl hrc hrs (by decide +kernel) hR
theorem mlL_112 : Cond.methodLink RL 112 yX5_owed ∈ BIG := bg (inT5 (List.mem_of_getElem? (i := 31) (by decide +kernel))) rfl
theorem clL_112 {R : Room} {s : State} {args : Array Value} {rm : Room} (hB : ∀ w ∈ BIG, w.before args s = true) (hrc : rm.cells = 0) (hrs : rm.slots = 0) (hR : rm.frames + 1 ≤ R.frames ∧ 8 + (2 + 11) + rm.locals ≤ R.locals) : CallW R s args RL RX5 112 yX5_owed cX5_owed 2 (some .int) (kX5_owed :: BIG) rm 0 0 1 := cwV 1 hB (bgV mlL_112 imX5_owed seX5_owed iniX5 mcX5_owed) rfl hrc hrs (by decide +kernel) hR
theorem mlL_113 : Cond.methodLink RL 113 yX4_balance ∈ BIG := bg (inT3 (List.mem_of_getElem? (i := 129) (by decide +kernel))) rfl
theorem clL_113 {R : Room} {s : State} {args : Array Value} {rm : Room} (hB : ∀ w ∈ BIG, w.before args s = true) (hrc : rm.cells = 0) (hrs : rm.slots = 0) (hR : rm.frames + 1 ≤ R.frames ∧ 8 + (1 + 11) + rm.locals ≤ R.locals) : CallW R s args RL RX4 113 yX4_balance cX4_balance 1 (some .int) (kX4_balance :: BIG) rm 0 0 0 := cwV 0 hB (bgV mlL_113 imX4_balance seX4_balance iniX4 mcX4_balance) rfl hrc hrs (by decide +kernel) hR
theorem mlL_116 : Cond.methodLink RL 116 yX5_balance ∈ BIG := bg (inT5 (List.mem_of_getElem? (i := 39) (by decide +kernel))) rfl
theorem clL_116 {R : Room} {s : State} {args : Array Value} {rm : Room} (hB : ∀ w ∈ BIG, w.before args s = true) (hrc : rm.cells = 0) (hrs : rm.slots = 0) (hR : rm.frames + 1 ≤ R.frames ∧ 8 + (4 + 11) + rm.locals ≤ R.locals) : CallW R s args RL RX5 116 yX5_balance cX5_balance 4 (some .int) (kX5_balance :: BIG) rm 0 0 0 := cwV 0 hB (bgV mlL_116 imX5_balance seX5_balance iniX5 mcX5_balance) rfl hrc hrs (by decide +kernel) hR
theorem mlL_117 : Cond.methodLink RL 117 yX4_names ∈ BIG := bg (inT3 (List.mem_of_getElem? (i := 137) (by decide +kernel))) rfl
theorem clL_117 {R : Room} {s : State} {args : Array Value} {rm : Room} (hB : ∀ w ∈ BIG, w.before args s = true) (hrc : rm.cells = 0) (hrs : rm.slots = 0) (hR : rm.frames + 1 ≤ R.frames ∧ 8 + (4 + 11) + rm.locals ≤ R.locals) : CallW R s args RL RX4 117 yX4_names cX4_names 4 (some .int) (kX4_names :: BIG) rm 0 0 1 := cwV 1 hB (bgV mlL_117 imX4_names seX4_names iniX4 mcX4_names) rfl hrc hrs (by decide +kernel) hR
theorem mlL_120 : Cond.methodLink RL 120 yX5_names ∈ BIG := bg (inT5 (List.mem_of_getElem? (i := 43) (by decide +kernel))) rfl
theorem clL_120 {R : Room} {s : State} {args : Array Value} {rm : Room} (hB : ∀ w ∈ BIG, w.before args s = true) (hrc : rm.cells = 0) (hrs : rm.slots = 0) (hR : rm.frames + 1 ≤ R.frames ∧ 8 + (5 + 11) + rm.locals ≤ R.locals) : CallW R s args RL RX5 120 yX5_names cX5_names 5 (some .int) (kX5_names :: BIG) rm 0 0 1 := cwV 1 hB (bgV mlL_120 imX5_names seX5_names iniX5 mcX5_names) rfl hrc hrs (by decide +kernel) hR
theorem mlL_121 : Cond.methodLink RL 121 yX4_next ∈ BIG := bg (inT3 (List.mem_of_getElem? (i := 147) (by decide +kernel))) rfl
theorem clL_121 {R : Room} {s : State} {args : Array Value} {rm : Room} (hB : ∀ w ∈ BIG, w.before args s = true) (hrc : rm.cells = 0) (hrs : rm.slots = 0) (hR : rm.frames + 1 ≤ R.frames ∧ 8 + (4 + 11) + rm.locals ≤ R.locals) : CallW R s args RL RX4 121 yX4_next cX4_next 4 (some .int) (kX4_next :: BIG) rm 0 0 3 := cwV 3 hB (bgV mlL_121 imX4_next seX4_next iniX4 mcX4_next) rfl hrc hrs (by decide +kernel) hR
theorem mlL_124 : Cond.methodLink RL 124 yX5_next ∈ BIG := bg (inT5 (List.mem_of_getElem? (i := 51) (by decide +kernel))) rfl
theorem clL_124 {R : Room} {s : State} {args : Array Value} {rm : Room} (hB : ∀ w ∈ BIG, w.before args s = true) (hrc : rm.cells = 0) (hrs : rm.slots = 0) (hR : rm.frames + 1 ≤ R.frames ∧ 8 + (4 + 11) + rm.locals ≤ R.locals) : CallW R s args RL RX5 124 yX5_next cX5_next 4 (some .int) (kX5_next :: BIG) rm 0 0 3 := cwV 3 hB (bgV mlL_124 imX5_next seX5_next iniX5 mcX5_next) rfl hrc hrs (by decide +kernel) hR
theorem mlL_125 : Cond.methodLink RL 125 yX4_year ∈ BIG := bg (inT3 (List.mem_of_getElem? (i := 152) (by decide +kernel))) rfl
theorem clL_125 {R : Room} {s : State} {args : Array Value} {rm : Room} (hB : ∀ w ∈ BIG, w.before args s = true) (hrc : rm.cells = 0) (hrs : rm.slots = 0) (hR : rm.frames + 1 ≤ R.frames ∧ 8 + (5 + 11) + rm.locals ≤ R.locals) : CallW R s args RL RX4 125 yX4_year cX4_year 5 (some .int) (kX4_year :: BIG) rm 0 0 3 := cwV 3 hB (bgV mlL_125 imX4_year seX4_year iniX4 mcX4_year) rfl hrc hrs (by decide +kernel) hR
theorem mlL_128 : Cond.methodLink RL 128 yX5_year ∈ BIG := bg (inT5 (List.mem_of_getElem? (i := 55) (by decide +kernel))) rfl
theorem clL_128 {R : Room} {s : State} {args : Array Value} {rm : Room} (hB : ∀ w ∈ BIG, w.before args s = true) (hrc : rm.cells = 0) (hrs : rm.slots = 0) (hR : rm.frames + 1 ≤ R.frames ∧ 8 + (8 + 11) + rm.locals ≤ R.locals) : CallW R s args RL RX5 128 yX5_year cX5_year 8 (some .int) (kX5_year :: BIG) rm 0 0 3 := cwV 3 hB (bgV mlL_128 imX5_year seX5_year iniX5 mcX5_year) rfl hrc hrs (by decide +kernel) hR
theorem mlL_129 : Cond.methodLink RL 129 yX4_keep ∈ BIG := bg (inT3 (List.mem_of_getElem? (i := 167) (by decide +kernel))) rfl
theorem clL_129 {R : Room} {s : State} {args : Array Value} {rm : Room} (hB : ∀ w ∈ BIG, w.before args s = true) (hrc : rm.cells = 0) (hrs : rm.slots = 0) (hR : rm.frames + 1 ≤ R.frames ∧ 8 + (1 + 11) + rm.locals ≤ R.locals) : CallW R s args RL RX4 129 yX4_keep cX4_keep 1 (some .int) (kX4_keep :: BIG) rm 0 0 0 := cwV 0 hB (bgV mlL_129 imX4_keep seX4_keep iniX4 mcX4_keep) rfl hrc hrs (by decide +kernel) hR
theorem mlL_132 : Cond.methodLink RL 132 yX5_keep ∈ BIG := bg (inT5 (List.mem_of_getElem? (i := 63) (by decide +kernel))) rfl
theorem clL_132 {R : Room} {s : State} {args : Array Value} {rm : Room} (hB : ∀ w ∈ BIG, w.before args s = true) (hrc : rm.cells = 0) (hrs : rm.slots = 0) (hR : rm.frames + 1 ≤ R.frames ∧ 8 + (1 + 11) + rm.locals ≤ R.locals) : CallW R s args RL RX5 132 yX5_keep cX5_keep 1 (some .int) (kX5_keep :: BIG) rm 0 0 0 := cwV 0 hB (bgV mlL_132 imX5_keep seX5_keep iniX5 mcX5_keep) rfl hrc hrs (by decide +kernel) hR
theorem mlL_133 : Cond.methodLink RL 133 yX4_back ∈ BIG := bg (inT3 (List.mem_of_getElem? (i := 171) (by decide +kernel))) rfl
theorem clL_133 {R : Room} {s : State} {args : Array Value} {rm : Room} (hB : ∀ w ∈ BIG, w.before args s = true) (hrc : rm.cells = 0) (hrs : rm.slots = 0) (hR : rm.frames + 1 ≤ R.frames ∧ 8 + (1 + 11) + rm.locals ≤ R.locals) : CallW R s args RL RX4 133 yX4_back cX4_back 1 (some .int) (kX4_back :: BIG) rm 0 0 0 := cwV 0 hB (bgV mlL_133 imX4_back seX4_back iniX4 mcX4_back) rfl hrc hrs (by decide +kernel) hR
theorem mlL_136 : Cond.methodLink RL 136 yX5_back ∈ BIG := bg (inT5 (List.mem_of_getElem? (i := 67) (by decide +kernel))) rfl
theorem clL_136 {R : Room} {s : State} {args : Array Value} {rm : Room} (hB : ∀ w ∈ BIG, w.before args s = true) (hrc : rm.cells = 0) (hrs : rm.slots = 0) (hR : rm.frames + 1 ≤ R.frames ∧ 8 + (2 + 11) + rm.locals ≤ R.locals) : CallW R s args RL RX5 136 yX5_back cX5_back 2 (some .int) (kX5_back :: BIG) rm 0 0 0 := cwV 0 hB (bgV mlL_136 imX5_back seX5_back iniX5 mcX5_back) rfl hrc hrs (by decide +kernel) hR
theorem mlL_137 : Cond.methodLink RL 137 yX4_count ∈ BIG := bg (inT3 (List.mem_of_getElem? (i := 175) (by decide +kernel))) rfl
theorem clL_137 {R : Room} {s : State} {args : Array Value} {rm : Room} (hB : ∀ w ∈ BIG, w.before args s = true) (hrc : rm.cells = 0) (hrs : rm.slots = 0) (hR : rm.frames + 1 ≤ R.frames ∧ 8 + (2 + 11) + rm.locals ≤ R.locals) : CallW R s args RL RX4 137 yX4_count cX4_count 2 (some .int) (kX4_count :: BIG) rm 0 0 1 := cwV 1 hB (bgV mlL_137 imX4_count seX4_count iniX4 mcX4_count) rfl hrc hrs (by decide +kernel) hR
theorem mlL_140 : Cond.methodLink RL 140 yX5_count ∈ BIG := bg (inT5 (List.mem_of_getElem? (i := 71) (by decide +kernel))) rfl
theorem clL_140 {R : Room} {s : State} {args : Array Value} {rm : Room} (hB : ∀ w ∈ BIG, w.before args s = true) (hrc : rm.cells = 0) (hrs : rm.slots = 0) (hR : rm.frames + 1 ≤ R.frames ∧ 8 + (2 + 11) + rm.locals ≤ R.locals) : CallW R s args RL RX5 140 yX5_count cX5_count 2 (some .int) (kX5_count :: BIG) rm 0 0 1 := cwV 1 hB (bgV mlL_140 imX5_count seX5_count iniX5 mcX5_count) rfl hrc hrs (by decide +kernel) hR
def aMn (n : Nat) : Nat → Nat := fun c => n + c
theorem AM_n {n n2 : Nat} (h : n ≤ n2) : ∀ q, AM (aMn n2) q → AN n q := fun q hq => by
  obtain ⟨c, -, rfl⟩ := hq
  show n ≤ n2 + c; omega
theorem MW_kept {E : En} {n n2 : Nat} {S : OS} {H H1 : Heap} (h : MW E (aMn n2) S H) (hk : ∀ q : Nat, q < H.size → ¬ AC (aYn n) (aOn n) q → H1[q]? = H[q]?) (hlo : ∀ q, AC (aYn n) (aOn n) q → q < n2) : MW E (aMn n2) S H1 :=
  ⟨h.1.kept (fun c hc => hk _ (h.1 c hc).lt (fun z => by have := hlo _ z; have e : aMn n2 c = n2 + c := rfl; omega)), h.2⟩
theorem CW_kept {E : En} {n n2 : Nat} {Y : YS} {o : OS} {H H1 : Heap} (h : CW E (aYn n) (aOn n) Y o H) (hk : ∀ q : Nat, q < H.size → ¬ AM (aMn n2) q → H1[q]? = H[q]?) (hlo : ∀ q, AC (aYn n) (aOn n) q → q < n2) : CW E (aYn n) (aOn n) Y o H1 := by
  have no : ∀ q, AC (aYn n) (aOn n) q → ¬ AM (aMn n2) q := fun q hq hm => by
    obtain ⟨c, -, e⟩ := hm
    have := hlo q hq
    have e : q = n2 + c := e
    omega
  exact ⟨fun i hi => (h.1 i hi).kept (fun c hc => hk _ (h.1 i hi c hc).lt (no _ (AC.y hi hc))), h.2.1.kept (fun c hc => hk _ (h.2.1 c hc).lt (no _ (AC.o hc))), h.2.2⟩
def LC (p : Program) (s : State) (m : MethodId) (c : Code) (b L n n2 : Nat) (xs : Nat → Int32) (E : En) (cells slots : Nat) : Prop := p.tables.exec = Jvm.exec ∧ c.code = code ∧ c.maxLocals = 4 ∧ s.vm.findClass RL = some m.cls ∧ (∀ w ∈ BIG, w.before #[Value.ref b] s = true) ∧ KK E s ∧ va_X b L xs s s.heap ∧ b < s.heap.size ∧ s.heap.size = n ∧ (∀ q, AC (aYn n) (aOn n) q → q < n2) ∧ n ≤ n2 ∧ L ≤ 256 ∧ cells ≤ 600000 ∧ slots ≤ 7302250
section LAW
variable {p : Program} {l : Launch} {e : Env} {s : State} {m : MethodId} {below : List Frame} {meth : Method} {c : Code} {H : Heap} {locs : List Loc} {cells slots : Nat} {Q : State → Prop} {ls : Array Slot} {b L n n2 i : Nat} {xs : Nat → Int32} {E : En} {Y : YS} {o S : OS}
set_option maxHeartbeats 4000000 in
set_option maxRecDepth 100000 in
theorem law_write (C : LC p s m c b L n n2 xs E cells slots) (hi : i + 4 ≤ L) (hl : lv_has ls 4 [(0, .ref b), (1, .ref (aOn n 0)), (2, .ref (aMn n2 0)), (3, .int (nI i))]) (hv : Inv Y o S) (hc : CW E (aYn n) (aOn n) Y o H) (hm : MW E (aMn n2) S H) (hS : va_S (AN n) s.heap H locs)
    (kk : ∀ (H1 : Heap) (L1 : List Loc) (Y1 : YS) (o1 S1 : OS), Inv Y1 o1 S1 → CW E (aYn n) (aOn n) Y1 o1 H1 → MW E (aMn n2) S1 H1 → va_S (AN n) s.heap H1 L1 → W p l e room_1 s m #[Value.ref b] below meth c H1 L1 cells slots Q (F0 m 905 ls [])) : W p l e room_1 s m #[Value.ref b] below meth c H locs cells slots Q (F0 m 172 ls []) := by
  obtain ⟨hx, hb, hml, hown, hB, hK, hX, hbl, hn, hlo, hnn, hL, hcs⟩ := C
  have hbA : ¬ AN n b := by show ¬ n ≤ b; omega
  obtain ⟨r, Y', o', S', e1, e2, hv'⟩ := op_write hv (xs (i + 1))
  refine lv_aload_n hx hb dL_law_172 rfl (lv_at hl 1 rfl) ?_
  refine lv_aload_n hx hb dL_law_173 rfl (lv_at hl 0 rfl) ?_
  refine lv_iload_n hx hb dL_law_174 rfl (lv_at hl 3 rfl) ?_
  refine lv_iconst (v := 1) hx hb dL_law_175 (by decide) ?_
  refine lv_iadd hx hb dL_law_176 ?_
  rw [show nI i + 1 = nI (i + 1) from nI_add i 1]
  refine va_sld hx hb hX hbl hbA hS (vp_in_nI (by omega) (by omega)) dL_law_177 ?_
  rw [nI_clamp (by omega)]
  refine k_VWi ⟨hx, hb, hml, hown, hB⟩ (c_X4_write l E (aYn n) (aOn n) Y o (xs (i + 1)) (r, Y', o') e1) (clL_13 hB rfl rfl ⟨Nat.le_of_ble_eq_true rfl, Nat.le_of_ble_eq_true rfl⟩) hK hc (rvO0 hK hc) rfl hl.1 rfl (Nat.le_of_ble_eq_true rfl) dL_law_178 hcs hS AC_n (fun H1 L1 hc hz1 hk1 hS => ?_)
  replace hm := MW_kept hm hk1 hlo
  refine lv_aload_n hx hb dL_law_181 rfl (lv_at hl 2 rfl) ?_
  refine lv_aload_n hx hb dL_law_182 rfl (lv_at hl 0 rfl) ?_
  refine lv_iload_n hx hb dL_law_183 rfl (lv_at hl 3 rfl) ?_
  refine lv_iconst (v := 1) hx hb dL_law_184 (by decide) ?_
  refine lv_iadd hx hb dL_law_185 ?_
  rw [show nI i + 1 = nI (i + 1) from nI_add i 1]
  refine va_sld hx hb hX hbl hbA hS (vp_in_nI (by omega) (by omega)) dL_law_186 ?_
  rw [nI_clamp (by omega)]
  refine k_VWi ⟨hx, hb, hml, hown, hB⟩ (c_X5_write l E (aMn n2) S (xs (i + 1)) (r, S') e2) (clL_17 hB rfl rfl ⟨Nat.le_of_ble_eq_true rfl, Nat.le_of_ble_eq_true rfl⟩) hK hm (rvM hK hm) rfl hl.1 rfl (Nat.le_of_ble_eq_true rfl) dL_law_187 hcs hS (AM_n hnn) (fun H2 L2 hm hz2 hk2 hS => ?_)
  replace hc := CW_kept hc hk2 hlo
  refine lv_icmp_eq (tgt := 905) hx hb dL_law_190 (by decide) (fun g => ?_) (fun g => absurd rfl g)
  exact kk _ _ Y' o' S' hv' hc hm hS
set_option maxHeartbeats 4000000 in
set_option maxRecDepth 100000 in
theorem law_wipe (C : LC p s m c b L n n2 xs E cells slots) (hi : i + 4 ≤ L) (hl : lv_has ls 4 [(0, .ref b), (1, .ref (aOn n 0)), (2, .ref (aMn n2 0)), (3, .int (nI i))]) (hv : Inv Y o S) (hc : CW E (aYn n) (aOn n) Y o H) (hm : MW E (aMn n2) S H) (hS : va_S (AN n) s.heap H locs)
    (kk : ∀ (H1 : Heap) (L1 : List Loc) (Y1 : YS) (o1 S1 : OS), Inv Y1 o1 S1 → CW E (aYn n) (aOn n) Y1 o1 H1 → MW E (aMn n2) S1 H1 → va_S (AN n) s.heap H1 L1 → W p l e room_1 s m #[Value.ref b] below meth c H1 L1 cells slots Q (F0 m 905 ls [])) : W p l e room_1 s m #[Value.ref b] below meth c H locs cells slots Q (F0 m 195 ls []) := by
  obtain ⟨hx, hb, hml, hown, hB, hK, hX, hbl, hn, hlo, hnn, hL, hcs⟩ := C
  have hbA : ¬ AN n b := by show ¬ n ≤ b; omega
  obtain ⟨r, Y', o', S', e1, e2, hv'⟩ := op_wipe hv
  refine lv_aload_n hx hb dL_law_195 rfl (lv_at hl 1 rfl) ?_
  refine k_VWi ⟨hx, hb, hml, hown, hB⟩ (c_X4_wipe l E (aYn n) (aOn n) Y o (r, Y', o') e1) (clL_18 hB rfl rfl ⟨Nat.le_of_ble_eq_true rfl, Nat.le_of_ble_eq_true rfl⟩) hK hc (rvO0 hK hc) rfl hl.1 rfl (Nat.le_of_ble_eq_true rfl) dL_law_196 hcs hS AC_n (fun H1 L1 hc hz1 hk1 hS => ?_)
  replace hm := MW_kept hm hk1 hlo
  refine lv_aload_n hx hb dL_law_199 rfl (lv_at hl 2 rfl) ?_
  refine k_VWi ⟨hx, hb, hml, hown, hB⟩ (c_X5_wipe l E (aMn n2) S (r, S') e2) (clL_22 hB rfl rfl ⟨Nat.le_of_ble_eq_true rfl, Nat.le_of_ble_eq_true rfl⟩) hK hm (rvM hK hm) rfl hl.1 rfl (Nat.le_of_ble_eq_true rfl) dL_law_200 hcs hS (AM_n hnn) (fun H2 L2 hm hz2 hk2 hS => ?_)
  replace hc := CW_kept hc hk2 hlo
  refine lv_icmp_eq (tgt := 905) hx hb dL_law_203 (by decide) (fun g => ?_) (fun g => absurd rfl g)
  exact kk _ _ Y' o' S' hv' hc hm hS
set_option maxHeartbeats 4000000 in
set_option maxRecDepth 100000 in
theorem law_fault (C : LC p s m c b L n n2 xs E cells slots) (hi : i + 4 ≤ L) (hl : lv_has ls 4 [(0, .ref b), (1, .ref (aOn n 0)), (2, .ref (aMn n2 0)), (3, .int (nI i))]) (hv : Inv Y o S) (hc : CW E (aYn n) (aOn n) Y o H) (hm : MW E (aMn n2) S H) (hS : va_S (AN n) s.heap H locs)
    (kk : ∀ (H1 : Heap) (L1 : List Loc) (Y1 : YS) (o1 S1 : OS), Inv Y1 o1 S1 → CW E (aYn n) (aOn n) Y1 o1 H1 → MW E (aMn n2) S1 H1 → va_S (AN n) s.heap H1 L1 → W p l e room_1 s m #[Value.ref b] below meth c H1 L1 cells slots Q (F0 m 905 ls [])) : W p l e room_1 s m #[Value.ref b] below meth c H locs cells slots Q (F0 m 208 ls []) := by
  obtain ⟨hx, hb, hml, hown, hB, hK, hX, hbl, hn, hlo, hnn, hL, hcs⟩ := C
  have hbA : ¬ AN n b := by show ¬ n ≤ b; omega
  obtain ⟨r, Y', o', S', e1, e2, hv'⟩ := op_fault hv
  refine lv_aload_n hx hb dL_law_208 rfl (lv_at hl 1 rfl) ?_
  refine k_VWi ⟨hx, hb, hml, hown, hB⟩ (c_X4_fault l E (aYn n) (aOn n) Y o (r, Y', o') e1) (clL_23 hB rfl rfl ⟨Nat.le_of_ble_eq_true rfl, Nat.le_of_ble_eq_true rfl⟩) hK hc (rvO0 hK hc) rfl hl.1 rfl (Nat.le_of_ble_eq_true rfl) dL_law_209 hcs hS AC_n (fun H1 L1 hc hz1 hk1 hS => ?_)
  replace hm := MW_kept hm hk1 hlo
  refine lv_aload_n hx hb dL_law_212 rfl (lv_at hl 2 rfl) ?_
  refine k_VWi ⟨hx, hb, hml, hown, hB⟩ (c_X5_fault l E (aMn n2) S (r, S') e2) (clL_26 hB rfl rfl ⟨Nat.le_of_ble_eq_true rfl, Nat.le_of_ble_eq_true rfl⟩) hK hm (rvM hK hm) rfl hl.1 rfl (Nat.le_of_ble_eq_true rfl) dL_law_213 hcs hS (AM_n hnn) (fun H2 L2 hm hz2 hk2 hS => ?_)
  replace hc := CW_kept hc hk2 hlo
  refine lv_icmp_eq (tgt := 905) hx hb dL_law_216 (by decide) (fun g => ?_) (fun g => absurd rfl g)
  exact kk _ _ Y' o' S' hv' hc hm hS
set_option maxHeartbeats 4000000 in
set_option maxRecDepth 100000 in
theorem law_lay (C : LC p s m c b L n n2 xs E cells slots) (hi : i + 4 ≤ L) (hl : lv_has ls 4 [(0, .ref b), (1, .ref (aOn n 0)), (2, .ref (aMn n2 0)), (3, .int (nI i))]) (hv : Inv Y o S) (hc : CW E (aYn n) (aOn n) Y o H) (hm : MW E (aMn n2) S H) (hS : va_S (AN n) s.heap H locs)
    (kk : ∀ (H1 : Heap) (L1 : List Loc) (Y1 : YS) (o1 S1 : OS), Inv Y1 o1 S1 → CW E (aYn n) (aOn n) Y1 o1 H1 → MW E (aMn n2) S1 H1 → va_S (AN n) s.heap H1 L1 → W p l e room_1 s m #[Value.ref b] below meth c H1 L1 cells slots Q (F0 m 905 ls [])) : W p l e room_1 s m #[Value.ref b] below meth c H locs cells slots Q (F0 m 221 ls []) := by
  obtain ⟨hx, hb, hml, hown, hB, hK, hX, hbl, hn, hlo, hnn, hL, hcs⟩ := C
  have hbA : ¬ AN n b := by show ¬ n ≤ b; omega
  obtain ⟨r, Y', o', S', e1, e2, hv'⟩ := op_lay hv
  refine lv_aload_n hx hb dL_law_221 rfl (lv_at hl 1 rfl) ?_
  refine k_VWi ⟨hx, hb, hml, hown, hB⟩ (c_X4_lay l E (aYn n) (aOn n) Y o (r, Y', o') e1) (clL_27 hB rfl rfl ⟨Nat.le_of_ble_eq_true rfl, Nat.le_of_ble_eq_true rfl⟩) hK hc (rvO0 hK hc) rfl hl.1 rfl (Nat.le_of_ble_eq_true rfl) dL_law_222 hcs hS AC_n (fun H1 L1 hc hz1 hk1 hS => ?_)
  replace hm := MW_kept hm hk1 hlo
  refine lv_aload_n hx hb dL_law_225 rfl (lv_at hl 2 rfl) ?_
  refine k_VWi ⟨hx, hb, hml, hown, hB⟩ (c_X5_lay l E (aMn n2) S (r, S') e2) (clL_30 hB rfl rfl ⟨Nat.le_of_ble_eq_true rfl, Nat.le_of_ble_eq_true rfl⟩) hK hm (rvM hK hm) rfl hl.1 rfl (Nat.le_of_ble_eq_true rfl) dL_law_226 hcs hS (AM_n hnn) (fun H2 L2 hm hz2 hk2 hS => ?_)
  replace hc := CW_kept hc hk2 hlo
  refine lv_icmp_eq (tgt := 905) hx hb dL_law_229 (by decide) (fun g => ?_) (fun g => absurd rfl g)
  exact kk _ _ Y' o' S' hv' hc hm hS
set_option maxHeartbeats 4000000 in
set_option maxRecDepth 100000 in
theorem law_dead (C : LC p s m c b L n n2 xs E cells slots) (hi : i + 4 ≤ L) (hl : lv_has ls 4 [(0, .ref b), (1, .ref (aOn n 0)), (2, .ref (aMn n2 0)), (3, .int (nI i))]) (hv : Inv Y o S) (hc : CW E (aYn n) (aOn n) Y o H) (hm : MW E (aMn n2) S H) (hS : va_S (AN n) s.heap H locs)
    (kk : ∀ (H1 : Heap) (L1 : List Loc) (Y1 : YS) (o1 S1 : OS), Inv Y1 o1 S1 → CW E (aYn n) (aOn n) Y1 o1 H1 → MW E (aMn n2) S1 H1 → va_S (AN n) s.heap H1 L1 → W p l e room_1 s m #[Value.ref b] below meth c H1 L1 cells slots Q (F0 m 905 ls [])) : W p l e room_1 s m #[Value.ref b] below meth c H locs cells slots Q (F0 m 234 ls []) := by
  obtain ⟨hx, hb, hml, hown, hB, hK, hX, hbl, hn, hlo, hnn, hL, hcs⟩ := C
  have hbA : ¬ AN n b := by show ¬ n ≤ b; omega
  obtain ⟨r, e1, e2⟩ := op_dead hv (xs (i + 1)) (xs (i + 2))
  refine lv_aload_n hx hb dL_law_234 rfl (lv_at hl 1 rfl) ?_
  refine lv_aload_n hx hb dL_law_235 rfl (lv_at hl 0 rfl) ?_
  refine lv_iload_n hx hb dL_law_236 rfl (lv_at hl 3 rfl) ?_
  refine lv_iconst (v := 1) hx hb dL_law_237 (by decide) ?_
  refine lv_iadd hx hb dL_law_238 ?_
  rw [show nI i + 1 = nI (i + 1) from nI_add i 1]
  refine va_sld hx hb hX hbl hbA hS (vp_in_nI (by omega) (by omega)) dL_law_239 ?_
  rw [nI_clamp (by omega)]
  refine lv_aload_n hx hb dL_law_240 rfl (lv_at hl 0 rfl) ?_
  refine lv_iload_n hx hb dL_law_241 rfl (lv_at hl 3 rfl) ?_
  refine lv_iconst (v := 2) hx hb dL_law_242 (by decide) ?_
  refine lv_iadd hx hb dL_law_243 ?_
  rw [show nI i + 2 = nI (i + 2) from nI_add i 2]
  refine va_sld hx hb hX hbl hbA hS (vp_in_nI (by omega) (by omega)) dL_law_244 ?_
  rw [nI_clamp (by omega)]
  refine k_VR ⟨hx, hb, hml, hown, hB⟩ (c_X4_dead l E (aYn n) (aOn n) Y o (xs (i + 1)) (xs (i + 2)) r e1) (clL_31 hB rfl rfl ⟨Nat.le_of_ble_eq_true rfl, Nat.le_of_ble_eq_true rfl⟩) hK hc (rvO0 hK hc) rfl hl.1 rfl (Nat.le_of_ble_eq_true rfl) dL_law_245 hcs ?_
  refine lv_aload_n hx hb dL_law_248 rfl (lv_at hl 2 rfl) ?_
  refine lv_aload_n hx hb dL_law_249 rfl (lv_at hl 0 rfl) ?_
  refine lv_iload_n hx hb dL_law_250 rfl (lv_at hl 3 rfl) ?_
  refine lv_iconst (v := 1) hx hb dL_law_251 (by decide) ?_
  refine lv_iadd hx hb dL_law_252 ?_
  rw [show nI i + 1 = nI (i + 1) from nI_add i 1]
  refine va_sld hx hb hX hbl hbA hS (vp_in_nI (by omega) (by omega)) dL_law_253 ?_
  rw [nI_clamp (by omega)]
  refine lv_aload_n hx hb dL_law_254 rfl (lv_at hl 0 rfl) ?_
  refine lv_iload_n hx hb dL_law_255 rfl (lv_at hl 3 rfl) ?_
  refine lv_iconst (v := 2) hx hb dL_law_256 (by decide) ?_
  refine lv_iadd hx hb dL_law_257 ?_
  rw [show nI i + 2 = nI (i + 2) from nI_add i 2]
  refine va_sld hx hb hX hbl hbA hS (vp_in_nI (by omega) (by omega)) dL_law_258 ?_
  rw [nI_clamp (by omega)]
  refine k_VR ⟨hx, hb, hml, hown, hB⟩ (c_X5_dead l E (aMn n2) S (xs (i + 1)) (xs (i + 2)) r e2) (clL_35 hB rfl rfl ⟨Nat.le_of_ble_eq_true rfl, Nat.le_of_ble_eq_true rfl⟩) hK hm (rvM hK hm) rfl hl.1 rfl (Nat.le_of_ble_eq_true rfl) dL_law_259 hcs ?_
  refine lv_icmp_eq (tgt := 905) hx hb dL_law_262 (by decide) (fun g => ?_) (fun g => absurd rfl g)
  exact kk H locs Y o S hv hc hm hS
set_option maxHeartbeats 4000000 in
set_option maxRecDepth 100000 in
theorem law_plot (C : LC p s m c b L n n2 xs E cells slots) (hi : i + 4 ≤ L) (hl : lv_has ls 4 [(0, .ref b), (1, .ref (aOn n 0)), (2, .ref (aMn n2 0)), (3, .int (nI i))]) (hv : Inv Y o S) (hc : CW E (aYn n) (aOn n) Y o H) (hm : MW E (aMn n2) S H) (hS : va_S (AN n) s.heap H locs)
    (kk : ∀ (H1 : Heap) (L1 : List Loc) (Y1 : YS) (o1 S1 : OS), Inv Y1 o1 S1 → CW E (aYn n) (aOn n) Y1 o1 H1 → MW E (aMn n2) S1 H1 → va_S (AN n) s.heap H1 L1 → W p l e room_1 s m #[Value.ref b] below meth c H1 L1 cells slots Q (F0 m 905 ls [])) : W p l e room_1 s m #[Value.ref b] below meth c H locs cells slots Q (F0 m 267 ls []) := by
  obtain ⟨hx, hb, hml, hown, hB, hK, hX, hbl, hn, hlo, hnn, hL, hcs⟩ := C
  have hbA : ¬ AN n b := by show ¬ n ≤ b; omega
  obtain ⟨r, e1, e2⟩ := op_plot' hv (xs (i + 1)) (xs (i + 2))
  refine lv_aload_n hx hb dL_law_267 rfl (lv_at hl 1 rfl) ?_
  refine lv_aload_n hx hb dL_law_268 rfl (lv_at hl 0 rfl) ?_
  refine lv_iload_n hx hb dL_law_269 rfl (lv_at hl 3 rfl) ?_
  refine lv_iconst (v := 1) hx hb dL_law_270 (by decide) ?_
  refine lv_iadd hx hb dL_law_271 ?_
  rw [show nI i + 1 = nI (i + 1) from nI_add i 1]
  refine va_sld hx hb hX hbl hbA hS (vp_in_nI (by omega) (by omega)) dL_law_272 ?_
  rw [nI_clamp (by omega)]
  refine lv_aload_n hx hb dL_law_273 rfl (lv_at hl 0 rfl) ?_
  refine lv_iload_n hx hb dL_law_274 rfl (lv_at hl 3 rfl) ?_
  refine lv_iconst (v := 2) hx hb dL_law_275 (by decide) ?_
  refine lv_iadd hx hb dL_law_276 ?_
  rw [show nI i + 2 = nI (i + 2) from nI_add i 2]
  refine va_sld hx hb hX hbl hbA hS (vp_in_nI (by omega) (by omega)) dL_law_277 ?_
  rw [nI_clamp (by omega)]
  refine k_VR ⟨hx, hb, hml, hown, hB⟩ (c_X4_plot l E (aYn n) (aOn n) Y o (xs (i + 1)) (xs (i + 2)) r e1) (clL_36 hB rfl rfl ⟨Nat.le_of_ble_eq_true rfl, Nat.le_of_ble_eq_true rfl⟩) hK hc (rvO0 hK hc) rfl hl.1 rfl (Nat.le_of_ble_eq_true rfl) dL_law_278 hcs ?_
  refine lv_aload_n hx hb dL_law_281 rfl (lv_at hl 2 rfl) ?_
  refine lv_aload_n hx hb dL_law_282 rfl (lv_at hl 0 rfl) ?_
  refine lv_iload_n hx hb dL_law_283 rfl (lv_at hl 3 rfl) ?_
  refine lv_iconst (v := 1) hx hb dL_law_284 (by decide) ?_
  refine lv_iadd hx hb dL_law_285 ?_
  rw [show nI i + 1 = nI (i + 1) from nI_add i 1]
  refine va_sld hx hb hX hbl hbA hS (vp_in_nI (by omega) (by omega)) dL_law_286 ?_
  rw [nI_clamp (by omega)]
  refine lv_aload_n hx hb dL_law_287 rfl (lv_at hl 0 rfl) ?_
  refine lv_iload_n hx hb dL_law_288 rfl (lv_at hl 3 rfl) ?_
  refine lv_iconst (v := 2) hx hb dL_law_289 (by decide) ?_
  refine lv_iadd hx hb dL_law_290 ?_
  rw [show nI i + 2 = nI (i + 2) from nI_add i 2]
  refine va_sld hx hb hX hbl hbA hS (vp_in_nI (by omega) (by omega)) dL_law_291 ?_
  rw [nI_clamp (by omega)]
  refine k_VR ⟨hx, hb, hml, hown, hB⟩ (c_X5_plot l E (aMn n2) S (xs (i + 1)) (xs (i + 2)) r e2) (clL_39 hB rfl rfl ⟨Nat.le_of_ble_eq_true rfl, Nat.le_of_ble_eq_true rfl⟩) hK hm (rvM hK hm) rfl hl.1 rfl (Nat.le_of_ble_eq_true rfl) dL_law_292 hcs ?_
  refine lv_icmp_eq (tgt := 905) hx hb dL_law_295 (by decide) (fun g => ?_) (fun g => absurd rfl g)
  exact kk H locs Y o S hv hc hm hS
set_option maxHeartbeats 4000000 in
set_option maxRecDepth 100000 in
theorem law_visitor (C : LC p s m c b L n n2 xs E cells slots) (hi : i + 4 ≤ L) (hl : lv_has ls 4 [(0, .ref b), (1, .ref (aOn n 0)), (2, .ref (aMn n2 0)), (3, .int (nI i))]) (hv : Inv Y o S) (hc : CW E (aYn n) (aOn n) Y o H) (hm : MW E (aMn n2) S H) (hS : va_S (AN n) s.heap H locs)
    (kk : ∀ (H1 : Heap) (L1 : List Loc) (Y1 : YS) (o1 S1 : OS), Inv Y1 o1 S1 → CW E (aYn n) (aOn n) Y1 o1 H1 → MW E (aMn n2) S1 H1 → va_S (AN n) s.heap H1 L1 → W p l e room_1 s m #[Value.ref b] below meth c H1 L1 cells slots Q (F0 m 905 ls [])) : W p l e room_1 s m #[Value.ref b] below meth c H locs cells slots Q (F0 m 300 ls []) := by
  obtain ⟨hx, hb, hml, hown, hB, hK, hX, hbl, hn, hlo, hnn, hL, hcs⟩ := C
  have hbA : ¬ AN n b := by show ¬ n ≤ b; omega
  obtain ⟨r, e1, e2⟩ := op_visitor hv (xs (i + 1)) (xs (i + 2))
  refine lv_aload_n hx hb dL_law_300 rfl (lv_at hl 1 rfl) ?_
  refine lv_aload_n hx hb dL_law_301 rfl (lv_at hl 0 rfl) ?_
  refine lv_iload_n hx hb dL_law_302 rfl (lv_at hl 3 rfl) ?_
  refine lv_iconst (v := 1) hx hb dL_law_303 (by decide) ?_
  refine lv_iadd hx hb dL_law_304 ?_
  rw [show nI i + 1 = nI (i + 1) from nI_add i 1]
  refine va_sld hx hb hX hbl hbA hS (vp_in_nI (by omega) (by omega)) dL_law_305 ?_
  rw [nI_clamp (by omega)]
  refine lv_aload_n hx hb dL_law_306 rfl (lv_at hl 0 rfl) ?_
  refine lv_iload_n hx hb dL_law_307 rfl (lv_at hl 3 rfl) ?_
  refine lv_iconst (v := 2) hx hb dL_law_308 (by decide) ?_
  refine lv_iadd hx hb dL_law_309 ?_
  rw [show nI i + 2 = nI (i + 2) from nI_add i 2]
  refine va_sld hx hb hX hbl hbA hS (vp_in_nI (by omega) (by omega)) dL_law_310 ?_
  rw [nI_clamp (by omega)]
  refine k_VR ⟨hx, hb, hml, hown, hB⟩ (c_X4_visitor l E (aYn n) (aOn n) Y o (xs (i + 1)) (xs (i + 2)) r e1) (clL_40 hB rfl rfl ⟨Nat.le_of_ble_eq_true rfl, Nat.le_of_ble_eq_true rfl⟩) hK hc (rvO0 hK hc) rfl hl.1 rfl (Nat.le_of_ble_eq_true rfl) dL_law_311 hcs ?_
  refine lv_aload_n hx hb dL_law_314 rfl (lv_at hl 2 rfl) ?_
  refine lv_aload_n hx hb dL_law_315 rfl (lv_at hl 0 rfl) ?_
  refine lv_iload_n hx hb dL_law_316 rfl (lv_at hl 3 rfl) ?_
  refine lv_iconst (v := 1) hx hb dL_law_317 (by decide) ?_
  refine lv_iadd hx hb dL_law_318 ?_
  rw [show nI i + 1 = nI (i + 1) from nI_add i 1]
  refine va_sld hx hb hX hbl hbA hS (vp_in_nI (by omega) (by omega)) dL_law_319 ?_
  rw [nI_clamp (by omega)]
  refine lv_aload_n hx hb dL_law_320 rfl (lv_at hl 0 rfl) ?_
  refine lv_iload_n hx hb dL_law_321 rfl (lv_at hl 3 rfl) ?_
  refine lv_iconst (v := 2) hx hb dL_law_322 (by decide) ?_
  refine lv_iadd hx hb dL_law_323 ?_
  rw [show nI i + 2 = nI (i + 2) from nI_add i 2]
  refine va_sld hx hb hX hbl hbA hS (vp_in_nI (by omega) (by omega)) dL_law_324 ?_
  rw [nI_clamp (by omega)]
  refine k_VR ⟨hx, hb, hml, hown, hB⟩ (c_X5_visitor l E (aMn n2) S (xs (i + 1)) (xs (i + 2)) r e2) (clL_43 hB rfl rfl ⟨Nat.le_of_ble_eq_true rfl, Nat.le_of_ble_eq_true rfl⟩) hK hm (rvM hK hm) rfl hl.1 rfl (Nat.le_of_ble_eq_true rfl) dL_law_325 hcs ?_
  refine lv_icmp_eq (tgt := 905) hx hb dL_law_328 (by decide) (fun g => ?_) (fun g => absurd rfl g)
  exact kk H locs Y o S hv hc hm hS
set_option maxHeartbeats 4000000 in
set_option maxRecDepth 100000 in
theorem law_bury (C : LC p s m c b L n n2 xs E cells slots) (hi : i + 4 ≤ L) (hl : lv_has ls 4 [(0, .ref b), (1, .ref (aOn n 0)), (2, .ref (aMn n2 0)), (3, .int (nI i))]) (hv : Inv Y o S) (hc : CW E (aYn n) (aOn n) Y o H) (hm : MW E (aMn n2) S H) (hS : va_S (AN n) s.heap H locs)
    (kk : ∀ (H1 : Heap) (L1 : List Loc) (Y1 : YS) (o1 S1 : OS), Inv Y1 o1 S1 → CW E (aYn n) (aOn n) Y1 o1 H1 → MW E (aMn n2) S1 H1 → va_S (AN n) s.heap H1 L1 → W p l e room_1 s m #[Value.ref b] below meth c H1 L1 cells slots Q (F0 m 905 ls [])) : W p l e room_1 s m #[Value.ref b] below meth c H locs cells slots Q (F0 m 333 ls []) := by
  obtain ⟨hx, hb, hml, hown, hB, hK, hX, hbl, hn, hlo, hnn, hL, hcs⟩ := C
  have hbA : ¬ AN n b := by show ¬ n ≤ b; omega
  obtain ⟨r, Y', o', S', e1, e2, hv'⟩ := op_bury hv (xs (i + 1)) (xs (i + 2)) (xs (i + 3))
  refine lv_aload_n hx hb dL_law_333 rfl (lv_at hl 1 rfl) ?_
  refine lv_aload_n hx hb dL_law_334 rfl (lv_at hl 0 rfl) ?_
  refine lv_iload_n hx hb dL_law_335 rfl (lv_at hl 3 rfl) ?_
  refine lv_iconst (v := 1) hx hb dL_law_336 (by decide) ?_
  refine lv_iadd hx hb dL_law_337 ?_
  rw [show nI i + 1 = nI (i + 1) from nI_add i 1]
  refine va_sld hx hb hX hbl hbA hS (vp_in_nI (by omega) (by omega)) dL_law_338 ?_
  rw [nI_clamp (by omega)]
  refine lv_aload_n hx hb dL_law_339 rfl (lv_at hl 0 rfl) ?_
  refine lv_iload_n hx hb dL_law_340 rfl (lv_at hl 3 rfl) ?_
  refine lv_iconst (v := 2) hx hb dL_law_341 (by decide) ?_
  refine lv_iadd hx hb dL_law_342 ?_
  rw [show nI i + 2 = nI (i + 2) from nI_add i 2]
  refine va_sld hx hb hX hbl hbA hS (vp_in_nI (by omega) (by omega)) dL_law_343 ?_
  rw [nI_clamp (by omega)]
  refine lv_aload_n hx hb dL_law_344 rfl (lv_at hl 0 rfl) ?_
  refine lv_iload_n hx hb dL_law_345 rfl (lv_at hl 3 rfl) ?_
  refine lv_iconst (v := 3) hx hb dL_law_346 (by decide) ?_
  refine lv_iadd hx hb dL_law_347 ?_
  rw [show nI i + 3 = nI (i + 3) from nI_add i 3]
  refine va_sld hx hb hX hbl hbA hS (vp_in_nI (by omega) (by omega)) dL_law_348 ?_
  rw [nI_clamp (by omega)]
  refine k_VWi ⟨hx, hb, hml, hown, hB⟩ (c_X4_bury l E (aYn n) (aOn n) Y o (xs (i + 1)) (xs (i + 2)) (xs (i + 3)) (r, Y', o') e1) (clL_44 hB rfl rfl ⟨Nat.le_of_ble_eq_true rfl, Nat.le_of_ble_eq_true rfl⟩) hK hc (rvO0 hK hc) rfl hl.1 rfl (Nat.le_of_ble_eq_true rfl) dL_law_349 hcs hS AC_n (fun H1 L1 hc hz1 hk1 hS => ?_)
  replace hm := MW_kept hm hk1 hlo
  refine lv_aload_n hx hb dL_law_352 rfl (lv_at hl 2 rfl) ?_
  refine lv_aload_n hx hb dL_law_353 rfl (lv_at hl 0 rfl) ?_
  refine lv_iload_n hx hb dL_law_354 rfl (lv_at hl 3 rfl) ?_
  refine lv_iconst (v := 1) hx hb dL_law_355 (by decide) ?_
  refine lv_iadd hx hb dL_law_356 ?_
  rw [show nI i + 1 = nI (i + 1) from nI_add i 1]
  refine va_sld hx hb hX hbl hbA hS (vp_in_nI (by omega) (by omega)) dL_law_357 ?_
  rw [nI_clamp (by omega)]
  refine lv_aload_n hx hb dL_law_358 rfl (lv_at hl 0 rfl) ?_
  refine lv_iload_n hx hb dL_law_359 rfl (lv_at hl 3 rfl) ?_
  refine lv_iconst (v := 2) hx hb dL_law_360 (by decide) ?_
  refine lv_iadd hx hb dL_law_361 ?_
  rw [show nI i + 2 = nI (i + 2) from nI_add i 2]
  refine va_sld hx hb hX hbl hbA hS (vp_in_nI (by omega) (by omega)) dL_law_362 ?_
  rw [nI_clamp (by omega)]
  refine lv_aload_n hx hb dL_law_363 rfl (lv_at hl 0 rfl) ?_
  refine lv_iload_n hx hb dL_law_364 rfl (lv_at hl 3 rfl) ?_
  refine lv_iconst (v := 3) hx hb dL_law_365 (by decide) ?_
  refine lv_iadd hx hb dL_law_366 ?_
  rw [show nI i + 3 = nI (i + 3) from nI_add i 3]
  refine va_sld hx hb hX hbl hbA hS (vp_in_nI (by omega) (by omega)) dL_law_367 ?_
  rw [nI_clamp (by omega)]
  refine k_VWi ⟨hx, hb, hml, hown, hB⟩ (c_X5_bury l E (aMn n2) S (xs (i + 1)) (xs (i + 2)) (xs (i + 3)) (r, S') e2) (clL_48 hB rfl rfl ⟨Nat.le_of_ble_eq_true rfl, Nat.le_of_ble_eq_true rfl⟩) hK hm (rvM hK hm) rfl hl.1 rfl (Nat.le_of_ble_eq_true rfl) dL_law_368 hcs hS (AM_n hnn) (fun H2 L2 hm hz2 hk2 hS => ?_)
  replace hc := CW_kept hc hk2 hlo
  refine lv_icmp_eq (tgt := 905) hx hb dL_law_371 (by decide) (fun g => ?_) (fun g => absurd rfl g)
  exact kk _ _ Y' o' S' hv' hc hm hS
set_option maxHeartbeats 4000000 in
set_option maxRecDepth 100000 in
theorem law_change (C : LC p s m c b L n n2 xs E cells slots) (hi : i + 4 ≤ L) (hl : lv_has ls 4 [(0, .ref b), (1, .ref (aOn n 0)), (2, .ref (aMn n2 0)), (3, .int (nI i))]) (hv : Inv Y o S) (hc : CW E (aYn n) (aOn n) Y o H) (hm : MW E (aMn n2) S H) (hS : va_S (AN n) s.heap H locs)
    (kk : ∀ (H1 : Heap) (L1 : List Loc) (Y1 : YS) (o1 S1 : OS), Inv Y1 o1 S1 → CW E (aYn n) (aOn n) Y1 o1 H1 → MW E (aMn n2) S1 H1 → va_S (AN n) s.heap H1 L1 → W p l e room_1 s m #[Value.ref b] below meth c H1 L1 cells slots Q (F0 m 905 ls [])) : W p l e room_1 s m #[Value.ref b] below meth c H locs cells slots Q (F0 m 376 ls []) := by
  obtain ⟨hx, hb, hml, hown, hB, hK, hX, hbl, hn, hlo, hnn, hL, hcs⟩ := C
  have hbA : ¬ AN n b := by show ¬ n ≤ b; omega
  obtain ⟨r, Y', o', S', e1, e2, hv'⟩ := op_change hv (xs (i + 1)) (xs (i + 2)) (xs (i + 3))
  refine lv_aload_n hx hb dL_law_376 rfl (lv_at hl 1 rfl) ?_
  refine lv_aload_n hx hb dL_law_377 rfl (lv_at hl 0 rfl) ?_
  refine lv_iload_n hx hb dL_law_378 rfl (lv_at hl 3 rfl) ?_
  refine lv_iconst (v := 1) hx hb dL_law_379 (by decide) ?_
  refine lv_iadd hx hb dL_law_380 ?_
  rw [show nI i + 1 = nI (i + 1) from nI_add i 1]
  refine va_sld hx hb hX hbl hbA hS (vp_in_nI (by omega) (by omega)) dL_law_381 ?_
  rw [nI_clamp (by omega)]
  refine lv_aload_n hx hb dL_law_382 rfl (lv_at hl 0 rfl) ?_
  refine lv_iload_n hx hb dL_law_383 rfl (lv_at hl 3 rfl) ?_
  refine lv_iconst (v := 2) hx hb dL_law_384 (by decide) ?_
  refine lv_iadd hx hb dL_law_385 ?_
  rw [show nI i + 2 = nI (i + 2) from nI_add i 2]
  refine va_sld hx hb hX hbl hbA hS (vp_in_nI (by omega) (by omega)) dL_law_386 ?_
  rw [nI_clamp (by omega)]
  refine lv_aload_n hx hb dL_law_387 rfl (lv_at hl 0 rfl) ?_
  refine lv_iload_n hx hb dL_law_388 rfl (lv_at hl 3 rfl) ?_
  refine lv_iconst (v := 3) hx hb dL_law_389 (by decide) ?_
  refine lv_iadd hx hb dL_law_390 ?_
  rw [show nI i + 3 = nI (i + 3) from nI_add i 3]
  refine va_sld hx hb hX hbl hbA hS (vp_in_nI (by omega) (by omega)) dL_law_391 ?_
  rw [nI_clamp (by omega)]
  refine k_VWi ⟨hx, hb, hml, hown, hB⟩ (c_X4_change l E (aYn n) (aOn n) Y o (xs (i + 1)) (xs (i + 2)) (xs (i + 3)) (r, Y', o') e1) (clL_49 hB rfl rfl ⟨Nat.le_of_ble_eq_true rfl, Nat.le_of_ble_eq_true rfl⟩) hK hc (rvO0 hK hc) rfl hl.1 rfl (Nat.le_of_ble_eq_true rfl) dL_law_392 hcs hS AC_n (fun H1 L1 hc hz1 hk1 hS => ?_)
  replace hm := MW_kept hm hk1 hlo
  refine lv_aload_n hx hb dL_law_395 rfl (lv_at hl 2 rfl) ?_
  refine lv_aload_n hx hb dL_law_396 rfl (lv_at hl 0 rfl) ?_
  refine lv_iload_n hx hb dL_law_397 rfl (lv_at hl 3 rfl) ?_
  refine lv_iconst (v := 1) hx hb dL_law_398 (by decide) ?_
  refine lv_iadd hx hb dL_law_399 ?_
  rw [show nI i + 1 = nI (i + 1) from nI_add i 1]
  refine va_sld hx hb hX hbl hbA hS (vp_in_nI (by omega) (by omega)) dL_law_400 ?_
  rw [nI_clamp (by omega)]
  refine lv_aload_n hx hb dL_law_401 rfl (lv_at hl 0 rfl) ?_
  refine lv_iload_n hx hb dL_law_402 rfl (lv_at hl 3 rfl) ?_
  refine lv_iconst (v := 2) hx hb dL_law_403 (by decide) ?_
  refine lv_iadd hx hb dL_law_404 ?_
  rw [show nI i + 2 = nI (i + 2) from nI_add i 2]
  refine va_sld hx hb hX hbl hbA hS (vp_in_nI (by omega) (by omega)) dL_law_405 ?_
  rw [nI_clamp (by omega)]
  refine lv_aload_n hx hb dL_law_406 rfl (lv_at hl 0 rfl) ?_
  refine lv_iload_n hx hb dL_law_407 rfl (lv_at hl 3 rfl) ?_
  refine lv_iconst (v := 3) hx hb dL_law_408 (by decide) ?_
  refine lv_iadd hx hb dL_law_409 ?_
  rw [show nI i + 3 = nI (i + 3) from nI_add i 3]
  refine va_sld hx hb hX hbl hbA hS (vp_in_nI (by omega) (by omega)) dL_law_410 ?_
  rw [nI_clamp (by omega)]
  refine k_VWi ⟨hx, hb, hml, hown, hB⟩ (c_X5_change l E (aMn n2) S (xs (i + 1)) (xs (i + 2)) (xs (i + 3)) (r, S') e2) (clL_52 hB rfl rfl ⟨Nat.le_of_ble_eq_true rfl, Nat.le_of_ble_eq_true rfl⟩) hK hm (rvM hK hm) rfl hl.1 rfl (Nat.le_of_ble_eq_true rfl) dL_law_411 hcs hS (AM_n hnn) (fun H2 L2 hm hz2 hk2 hS => ?_)
  replace hc := CW_kept hc hk2 hlo
  refine lv_icmp_eq (tgt := 905) hx hb dL_law_414 (by decide) (fun g => ?_) (fun g => absurd rfl g)
  exact kk _ _ Y' o' S' hv' hc hm hS
set_option maxHeartbeats 4000000 in
set_option maxRecDepth 100000 in
theorem law_forgive (C : LC p s m c b L n n2 xs E cells slots) (hi : i + 4 ≤ L) (hl : lv_has ls 4 [(0, .ref b), (1, .ref (aOn n 0)), (2, .ref (aMn n2 0)), (3, .int (nI i))]) (hv : Inv Y o S) (hc : CW E (aYn n) (aOn n) Y o H) (hm : MW E (aMn n2) S H) (hS : va_S (AN n) s.heap H locs)
    (kk : ∀ (H1 : Heap) (L1 : List Loc) (Y1 : YS) (o1 S1 : OS), Inv Y1 o1 S1 → CW E (aYn n) (aOn n) Y1 o1 H1 → MW E (aMn n2) S1 H1 → va_S (AN n) s.heap H1 L1 → W p l e room_1 s m #[Value.ref b] below meth c H1 L1 cells slots Q (F0 m 905 ls [])) : W p l e room_1 s m #[Value.ref b] below meth c H locs cells slots Q (F0 m 419 ls []) := by
  obtain ⟨hx, hb, hml, hown, hB, hK, hX, hbl, hn, hlo, hnn, hL, hcs⟩ := C
  have hbA : ¬ AN n b := by show ¬ n ≤ b; omega
  obtain ⟨r, Y', o', S', e1, e2, hv'⟩ := op_forgive hv (xs (i + 1)) (xs (i + 2))
  refine lv_aload_n hx hb dL_law_419 rfl (lv_at hl 1 rfl) ?_
  refine lv_aload_n hx hb dL_law_420 rfl (lv_at hl 0 rfl) ?_
  refine lv_iload_n hx hb dL_law_421 rfl (lv_at hl 3 rfl) ?_
  refine lv_iconst (v := 1) hx hb dL_law_422 (by decide) ?_
  refine lv_iadd hx hb dL_law_423 ?_
  rw [show nI i + 1 = nI (i + 1) from nI_add i 1]
  refine va_sld hx hb hX hbl hbA hS (vp_in_nI (by omega) (by omega)) dL_law_424 ?_
  rw [nI_clamp (by omega)]
  refine lv_aload_n hx hb dL_law_425 rfl (lv_at hl 0 rfl) ?_
  refine lv_iload_n hx hb dL_law_426 rfl (lv_at hl 3 rfl) ?_
  refine lv_iconst (v := 2) hx hb dL_law_427 (by decide) ?_
  refine lv_iadd hx hb dL_law_428 ?_
  rw [show nI i + 2 = nI (i + 2) from nI_add i 2]
  refine va_sld hx hb hX hbl hbA hS (vp_in_nI (by omega) (by omega)) dL_law_429 ?_
  rw [nI_clamp (by omega)]
  refine k_VWi ⟨hx, hb, hml, hown, hB⟩ (c_X4_forgive l E (aYn n) (aOn n) Y o (xs (i + 1)) (xs (i + 2)) (r, Y', o') e1) (clL_53 hB rfl rfl ⟨Nat.le_of_ble_eq_true rfl, Nat.le_of_ble_eq_true rfl⟩) hK hc (rvO0 hK hc) rfl hl.1 rfl (Nat.le_of_ble_eq_true rfl) dL_law_430 hcs hS AC_n (fun H1 L1 hc hz1 hk1 hS => ?_)
  replace hm := MW_kept hm hk1 hlo
  refine lv_aload_n hx hb dL_law_433 rfl (lv_at hl 2 rfl) ?_
  refine lv_aload_n hx hb dL_law_434 rfl (lv_at hl 0 rfl) ?_
  refine lv_iload_n hx hb dL_law_435 rfl (lv_at hl 3 rfl) ?_
  refine lv_iconst (v := 1) hx hb dL_law_436 (by decide) ?_
  refine lv_iadd hx hb dL_law_437 ?_
  rw [show nI i + 1 = nI (i + 1) from nI_add i 1]
  refine va_sld hx hb hX hbl hbA hS (vp_in_nI (by omega) (by omega)) dL_law_438 ?_
  rw [nI_clamp (by omega)]
  refine lv_aload_n hx hb dL_law_439 rfl (lv_at hl 0 rfl) ?_
  refine lv_iload_n hx hb dL_law_440 rfl (lv_at hl 3 rfl) ?_
  refine lv_iconst (v := 2) hx hb dL_law_441 (by decide) ?_
  refine lv_iadd hx hb dL_law_442 ?_
  rw [show nI i + 2 = nI (i + 2) from nI_add i 2]
  refine va_sld hx hb hX hbl hbA hS (vp_in_nI (by omega) (by omega)) dL_law_443 ?_
  rw [nI_clamp (by omega)]
  refine k_VWi ⟨hx, hb, hml, hown, hB⟩ (c_X5_forgive l E (aMn n2) S (xs (i + 1)) (xs (i + 2)) (r, S') e2) (clL_56 hB rfl rfl ⟨Nat.le_of_ble_eq_true rfl, Nat.le_of_ble_eq_true rfl⟩) hK hm (rvM hK hm) rfl hl.1 rfl (Nat.le_of_ble_eq_true rfl) dL_law_444 hcs hS (AM_n hnn) (fun H2 L2 hm hz2 hk2 hS => ?_)
  replace hc := CW_kept hc hk2 hlo
  refine lv_icmp_eq (tgt := 905) hx hb dL_law_447 (by decide) (fun g => ?_) (fun g => absurd rfl g)
  exact kk _ _ Y' o' S' hv' hc hm hS
set_option maxHeartbeats 4000000 in
set_option maxRecDepth 100000 in
theorem law_visit (C : LC p s m c b L n n2 xs E cells slots) (hi : i + 4 ≤ L) (hl : lv_has ls 4 [(0, .ref b), (1, .ref (aOn n 0)), (2, .ref (aMn n2 0)), (3, .int (nI i))]) (hv : Inv Y o S) (hc : CW E (aYn n) (aOn n) Y o H) (hm : MW E (aMn n2) S H) (hS : va_S (AN n) s.heap H locs)
    (kk : ∀ (H1 : Heap) (L1 : List Loc) (Y1 : YS) (o1 S1 : OS), Inv Y1 o1 S1 → CW E (aYn n) (aOn n) Y1 o1 H1 → MW E (aMn n2) S1 H1 → va_S (AN n) s.heap H1 L1 → W p l e room_1 s m #[Value.ref b] below meth c H1 L1 cells slots Q (F0 m 905 ls [])) : W p l e room_1 s m #[Value.ref b] below meth c H locs cells slots Q (F0 m 452 ls []) := by
  obtain ⟨hx, hb, hml, hown, hB, hK, hX, hbl, hn, hlo, hnn, hL, hcs⟩ := C
  have hbA : ¬ AN n b := by show ¬ n ≤ b; omega
  obtain ⟨r, Y', o', S', e1, e2, hv'⟩ := op_visit hv (xs (i + 1)) (xs (i + 2))
  refine lv_aload_n hx hb dL_law_452 rfl (lv_at hl 1 rfl) ?_
  refine lv_aload_n hx hb dL_law_453 rfl (lv_at hl 0 rfl) ?_
  refine lv_iload_n hx hb dL_law_454 rfl (lv_at hl 3 rfl) ?_
  refine lv_iconst (v := 1) hx hb dL_law_455 (by decide) ?_
  refine lv_iadd hx hb dL_law_456 ?_
  rw [show nI i + 1 = nI (i + 1) from nI_add i 1]
  refine va_sld hx hb hX hbl hbA hS (vp_in_nI (by omega) (by omega)) dL_law_457 ?_
  rw [nI_clamp (by omega)]
  refine lv_aload_n hx hb dL_law_458 rfl (lv_at hl 0 rfl) ?_
  refine lv_iload_n hx hb dL_law_459 rfl (lv_at hl 3 rfl) ?_
  refine lv_iconst (v := 2) hx hb dL_law_460 (by decide) ?_
  refine lv_iadd hx hb dL_law_461 ?_
  rw [show nI i + 2 = nI (i + 2) from nI_add i 2]
  refine va_sld hx hb hX hbl hbA hS (vp_in_nI (by omega) (by omega)) dL_law_462 ?_
  rw [nI_clamp (by omega)]
  refine k_VWi ⟨hx, hb, hml, hown, hB⟩ (c_X4_visit l E (aYn n) (aOn n) Y o (xs (i + 1)) (xs (i + 2)) (r, Y', o') e1) (clL_57 hB rfl rfl ⟨Nat.le_of_ble_eq_true rfl, Nat.le_of_ble_eq_true rfl⟩) hK hc (rvO0 hK hc) rfl hl.1 rfl (Nat.le_of_ble_eq_true rfl) dL_law_463 hcs hS AC_n (fun H1 L1 hc hz1 hk1 hS => ?_)
  replace hm := MW_kept hm hk1 hlo
  refine lv_aload_n hx hb dL_law_466 rfl (lv_at hl 2 rfl) ?_
  refine lv_aload_n hx hb dL_law_467 rfl (lv_at hl 0 rfl) ?_
  refine lv_iload_n hx hb dL_law_468 rfl (lv_at hl 3 rfl) ?_
  refine lv_iconst (v := 1) hx hb dL_law_469 (by decide) ?_
  refine lv_iadd hx hb dL_law_470 ?_
  rw [show nI i + 1 = nI (i + 1) from nI_add i 1]
  refine va_sld hx hb hX hbl hbA hS (vp_in_nI (by omega) (by omega)) dL_law_471 ?_
  rw [nI_clamp (by omega)]
  refine lv_aload_n hx hb dL_law_472 rfl (lv_at hl 0 rfl) ?_
  refine lv_iload_n hx hb dL_law_473 rfl (lv_at hl 3 rfl) ?_
  refine lv_iconst (v := 2) hx hb dL_law_474 (by decide) ?_
  refine lv_iadd hx hb dL_law_475 ?_
  rw [show nI i + 2 = nI (i + 2) from nI_add i 2]
  refine va_sld hx hb hX hbl hbA hS (vp_in_nI (by omega) (by omega)) dL_law_476 ?_
  rw [nI_clamp (by omega)]
  refine k_VWi ⟨hx, hb, hml, hown, hB⟩ (c_X5_visit l E (aMn n2) S (xs (i + 1)) (xs (i + 2)) (r, S') e2) (clL_60 hB rfl rfl ⟨Nat.le_of_ble_eq_true rfl, Nat.le_of_ble_eq_true rfl⟩) hK hm (rvM hK hm) rfl hl.1 rfl (Nat.le_of_ble_eq_true rfl) dL_law_477 hcs hS (AM_n hnn) (fun H2 L2 hm hz2 hk2 hS => ?_)
  replace hc := CW_kept hc hk2 hlo
  refine lv_icmp_eq (tgt := 905) hx hb dL_law_480 (by decide) (fun g => ?_) (fun g => absurd rfl g)
  exact kk _ _ Y' o' S' hv' hc hm hS
set_option maxHeartbeats 4000000 in
set_option maxRecDepth 100000 in
theorem law_undo (C : LC p s m c b L n n2 xs E cells slots) (hi : i + 4 ≤ L) (hl : lv_has ls 4 [(0, .ref b), (1, .ref (aOn n 0)), (2, .ref (aMn n2 0)), (3, .int (nI i))]) (hv : Inv Y o S) (hc : CW E (aYn n) (aOn n) Y o H) (hm : MW E (aMn n2) S H) (hS : va_S (AN n) s.heap H locs)
    (kk : ∀ (H1 : Heap) (L1 : List Loc) (Y1 : YS) (o1 S1 : OS), Inv Y1 o1 S1 → CW E (aYn n) (aOn n) Y1 o1 H1 → MW E (aMn n2) S1 H1 → va_S (AN n) s.heap H1 L1 → W p l e room_1 s m #[Value.ref b] below meth c H1 L1 cells slots Q (F0 m 905 ls [])) : W p l e room_1 s m #[Value.ref b] below meth c H locs cells slots Q (F0 m 485 ls []) := by
  obtain ⟨hx, hb, hml, hown, hB, hK, hX, hbl, hn, hlo, hnn, hL, hcs⟩ := C
  have hbA : ¬ AN n b := by show ¬ n ≤ b; omega
  obtain ⟨r, Y', o', S', e1, e2, hv'⟩ := op_undo hv
  refine lv_aload_n hx hb dL_law_485 rfl (lv_at hl 1 rfl) ?_
  refine k_VWi ⟨hx, hb, hml, hown, hB⟩ (c_X4_undo l E (aYn n) (aOn n) Y o (r, Y', o') e1) (clL_61 hB rfl rfl ⟨Nat.le_of_ble_eq_true rfl, Nat.le_of_ble_eq_true rfl⟩) hK hc (rvO0 hK hc) rfl hl.1 rfl (Nat.le_of_ble_eq_true rfl) dL_law_486 hcs hS AC_n (fun H1 L1 hc hz1 hk1 hS => ?_)
  replace hm := MW_kept hm hk1 hlo
  refine lv_aload_n hx hb dL_law_489 rfl (lv_at hl 2 rfl) ?_
  refine k_VWi ⟨hx, hb, hml, hown, hB⟩ (c_X5_undo l E (aMn n2) S (r, S') e2) (clL_64 hB rfl rfl ⟨Nat.le_of_ble_eq_true rfl, Nat.le_of_ble_eq_true rfl⟩) hK hm (rvM hK hm) rfl hl.1 rfl (Nat.le_of_ble_eq_true rfl) dL_law_490 hcs hS (AM_n hnn) (fun H2 L2 hm hz2 hk2 hS => ?_)
  replace hc := CW_kept hc hk2 hlo
  refine lv_icmp_eq (tgt := 905) hx hb dL_law_493 (by decide) (fun g => ?_) (fun g => absurd rfl g)
  exact kk _ _ Y' o' S' hv' hc hm hS
set_option maxHeartbeats 4000000 in
set_option maxRecDepth 100000 in
theorem law_right (C : LC p s m c b L n n2 xs E cells slots) (hi : i + 4 ≤ L) (hl : lv_has ls 4 [(0, .ref b), (1, .ref (aOn n 0)), (2, .ref (aMn n2 0)), (3, .int (nI i))]) (hv : Inv Y o S) (hc : CW E (aYn n) (aOn n) Y o H) (hm : MW E (aMn n2) S H) (hS : va_S (AN n) s.heap H locs)
    (kk : ∀ (H1 : Heap) (L1 : List Loc) (Y1 : YS) (o1 S1 : OS), Inv Y1 o1 S1 → CW E (aYn n) (aOn n) Y1 o1 H1 → MW E (aMn n2) S1 H1 → va_S (AN n) s.heap H1 L1 → W p l e room_1 s m #[Value.ref b] below meth c H1 L1 cells slots Q (F0 m 905 ls [])) : W p l e room_1 s m #[Value.ref b] below meth c H locs cells slots Q (F0 m 498 ls []) := by
  obtain ⟨hx, hb, hml, hown, hB, hK, hX, hbl, hn, hlo, hnn, hL, hcs⟩ := C
  have hbA : ¬ AN n b := by show ¬ n ≤ b; omega
  obtain ⟨r, Y', o', S', e1, e2, hv'⟩ := op_right hv (xs (i + 1))
  refine lv_aload_n hx hb dL_law_498 rfl (lv_at hl 1 rfl) ?_
  refine lv_aload_n hx hb dL_law_499 rfl (lv_at hl 0 rfl) ?_
  refine lv_iload_n hx hb dL_law_500 rfl (lv_at hl 3 rfl) ?_
  refine lv_iconst (v := 1) hx hb dL_law_501 (by decide) ?_
  refine lv_iadd hx hb dL_law_502 ?_
  rw [show nI i + 1 = nI (i + 1) from nI_add i 1]
  refine va_sld hx hb hX hbl hbA hS (vp_in_nI (by omega) (by omega)) dL_law_503 ?_
  rw [nI_clamp (by omega)]
  refine k_VWi ⟨hx, hb, hml, hown, hB⟩ (c_X4_right l E (aYn n) (aOn n) Y o (xs (i + 1)) (r, Y', o') e1) (clL_65 hB rfl rfl ⟨Nat.le_of_ble_eq_true rfl, Nat.le_of_ble_eq_true rfl⟩) hK hc (rvO0 hK hc) rfl hl.1 rfl (Nat.le_of_ble_eq_true rfl) dL_law_504 hcs hS AC_n (fun H1 L1 hc hz1 hk1 hS => ?_)
  replace hm := MW_kept hm hk1 hlo
  refine lv_aload_n hx hb dL_law_507 rfl (lv_at hl 2 rfl) ?_
  refine lv_aload_n hx hb dL_law_508 rfl (lv_at hl 0 rfl) ?_
  refine lv_iload_n hx hb dL_law_509 rfl (lv_at hl 3 rfl) ?_
  refine lv_iconst (v := 1) hx hb dL_law_510 (by decide) ?_
  refine lv_iadd hx hb dL_law_511 ?_
  rw [show nI i + 1 = nI (i + 1) from nI_add i 1]
  refine va_sld hx hb hX hbl hbA hS (vp_in_nI (by omega) (by omega)) dL_law_512 ?_
  rw [nI_clamp (by omega)]
  refine k_VWi ⟨hx, hb, hml, hown, hB⟩ (c_X5_right l E (aMn n2) S (xs (i + 1)) (r, S') e2) (clL_68 hB rfl rfl ⟨Nat.le_of_ble_eq_true rfl, Nat.le_of_ble_eq_true rfl⟩) hK hm (rvM hK hm) rfl hl.1 rfl (Nat.le_of_ble_eq_true rfl) dL_law_513 hcs hS (AM_n hnn) (fun H2 L2 hm hz2 hk2 hS => ?_)
  replace hc := CW_kept hc hk2 hlo
  refine lv_icmp_eq (tgt := 905) hx hb dL_law_516 (by decide) (fun g => ?_) (fun g => absurd rfl g)
  exact kk _ _ Y' o' S' hv' hc hm hS
set_option maxHeartbeats 4000000 in
set_option maxRecDepth 100000 in
theorem law_moved (C : LC p s m c b L n n2 xs E cells slots) (hi : i + 4 ≤ L) (hl : lv_has ls 4 [(0, .ref b), (1, .ref (aOn n 0)), (2, .ref (aMn n2 0)), (3, .int (nI i))]) (hv : Inv Y o S) (hc : CW E (aYn n) (aOn n) Y o H) (hm : MW E (aMn n2) S H) (hS : va_S (AN n) s.heap H locs)
    (kk : ∀ (H1 : Heap) (L1 : List Loc) (Y1 : YS) (o1 S1 : OS), Inv Y1 o1 S1 → CW E (aYn n) (aOn n) Y1 o1 H1 → MW E (aMn n2) S1 H1 → va_S (AN n) s.heap H1 L1 → W p l e room_1 s m #[Value.ref b] below meth c H1 L1 cells slots Q (F0 m 905 ls [])) : W p l e room_1 s m #[Value.ref b] below meth c H locs cells slots Q (F0 m 521 ls []) := by
  obtain ⟨hx, hb, hml, hown, hB, hK, hX, hbl, hn, hlo, hnn, hL, hcs⟩ := C
  have hbA : ¬ AN n b := by show ¬ n ≤ b; omega
  obtain ⟨r, Y', o', S', e1, e2, hv'⟩ := op_moved hv
  refine lv_aload_n hx hb dL_law_521 rfl (lv_at hl 1 rfl) ?_
  refine k_VWi ⟨hx, hb, hml, hown, hB⟩ (c_X4_moved l E (aYn n) (aOn n) Y o (r, Y', o') e1) (clL_69 hB rfl rfl ⟨Nat.le_of_ble_eq_true rfl, Nat.le_of_ble_eq_true rfl⟩) hK hc (rvO0 hK hc) rfl hl.1 rfl (Nat.le_of_ble_eq_true rfl) dL_law_522 hcs hS AC_n (fun H1 L1 hc hz1 hk1 hS => ?_)
  replace hm := MW_kept hm hk1 hlo
  refine lv_aload_n hx hb dL_law_525 rfl (lv_at hl 2 rfl) ?_
  refine k_VWi ⟨hx, hb, hml, hown, hB⟩ (c_X5_moved l E (aMn n2) S (r, S') e2) (clL_72 hB rfl rfl ⟨Nat.le_of_ble_eq_true rfl, Nat.le_of_ble_eq_true rfl⟩) hK hm (rvM hK hm) rfl hl.1 rfl (Nat.le_of_ble_eq_true rfl) dL_law_526 hcs hS (AM_n hnn) (fun H2 L2 hm hz2 hk2 hS => ?_)
  replace hc := CW_kept hc hk2 hlo
  refine lv_icmp_eq (tgt := 905) hx hb dL_law_529 (by decide) (fun g => ?_) (fun g => absurd rfl g)
  exact kk _ _ Y' o' S' hv' hc hm hS
set_option maxHeartbeats 4000000 in
set_option maxRecDepth 100000 in
theorem law_mend (C : LC p s m c b L n n2 xs E cells slots) (hi : i + 4 ≤ L) (hl : lv_has ls 4 [(0, .ref b), (1, .ref (aOn n 0)), (2, .ref (aMn n2 0)), (3, .int (nI i))]) (hv : Inv Y o S) (hc : CW E (aYn n) (aOn n) Y o H) (hm : MW E (aMn n2) S H) (hS : va_S (AN n) s.heap H locs)
    (kk : ∀ (H1 : Heap) (L1 : List Loc) (Y1 : YS) (o1 S1 : OS), Inv Y1 o1 S1 → CW E (aYn n) (aOn n) Y1 o1 H1 → MW E (aMn n2) S1 H1 → va_S (AN n) s.heap H1 L1 → W p l e room_1 s m #[Value.ref b] below meth c H1 L1 cells slots Q (F0 m 905 ls [])) : W p l e room_1 s m #[Value.ref b] below meth c H locs cells slots Q (F0 m 534 ls []) := by
  obtain ⟨hx, hb, hml, hown, hB, hK, hX, hbl, hn, hlo, hnn, hL, hcs⟩ := C
  have hbA : ¬ AN n b := by show ¬ n ≤ b; omega
  obtain ⟨r, Y', o', S', e1, e2, hv'⟩ := op_mend hv (xs (i + 1))
  refine lv_aload_n hx hb dL_law_534 rfl (lv_at hl 1 rfl) ?_
  refine lv_aload_n hx hb dL_law_535 rfl (lv_at hl 0 rfl) ?_
  refine lv_iload_n hx hb dL_law_536 rfl (lv_at hl 3 rfl) ?_
  refine lv_iconst (v := 1) hx hb dL_law_537 (by decide) ?_
  refine lv_iadd hx hb dL_law_538 ?_
  rw [show nI i + 1 = nI (i + 1) from nI_add i 1]
  refine va_sld hx hb hX hbl hbA hS (vp_in_nI (by omega) (by omega)) dL_law_539 ?_
  rw [nI_clamp (by omega)]
  refine k_VWi ⟨hx, hb, hml, hown, hB⟩ (c_X4_mend l E (aYn n) (aOn n) Y o (xs (i + 1)) (r, Y', o') e1) (clL_73 hB rfl rfl ⟨Nat.le_of_ble_eq_true rfl, Nat.le_of_ble_eq_true rfl⟩) hK hc (rvO0 hK hc) rfl hl.1 rfl (Nat.le_of_ble_eq_true rfl) dL_law_540 hcs hS AC_n (fun H1 L1 hc hz1 hk1 hS => ?_)
  replace hm := MW_kept hm hk1 hlo
  refine lv_aload_n hx hb dL_law_543 rfl (lv_at hl 2 rfl) ?_
  refine lv_aload_n hx hb dL_law_544 rfl (lv_at hl 0 rfl) ?_
  refine lv_iload_n hx hb dL_law_545 rfl (lv_at hl 3 rfl) ?_
  refine lv_iconst (v := 1) hx hb dL_law_546 (by decide) ?_
  refine lv_iadd hx hb dL_law_547 ?_
  rw [show nI i + 1 = nI (i + 1) from nI_add i 1]
  refine va_sld hx hb hX hbl hbA hS (vp_in_nI (by omega) (by omega)) dL_law_548 ?_
  rw [nI_clamp (by omega)]
  refine k_VWi ⟨hx, hb, hml, hown, hB⟩ (c_X5_mend l E (aMn n2) S (xs (i + 1)) (r, S') e2) (clL_76 hB rfl rfl ⟨Nat.le_of_ble_eq_true rfl, Nat.le_of_ble_eq_true rfl⟩) hK hm (rvM hK hm) rfl hl.1 rfl (Nat.le_of_ble_eq_true rfl) dL_law_549 hcs hS (AM_n hnn) (fun H2 L2 hm hz2 hk2 hS => ?_)
  replace hc := CW_kept hc hk2 hlo
  refine lv_icmp_eq (tgt := 905) hx hb dL_law_552 (by decide) (fun g => ?_) (fun g => absurd rfl g)
  exact kk _ _ Y' o' S' hv' hc hm hS
set_option maxHeartbeats 4000000 in
set_option maxRecDepth 100000 in
theorem law_grudge (C : LC p s m c b L n n2 xs E cells slots) (hi : i + 4 ≤ L) (hl : lv_has ls 4 [(0, .ref b), (1, .ref (aOn n 0)), (2, .ref (aMn n2 0)), (3, .int (nI i))]) (hv : Inv Y o S) (hc : CW E (aYn n) (aOn n) Y o H) (hm : MW E (aMn n2) S H) (hS : va_S (AN n) s.heap H locs)
    (kk : ∀ (H1 : Heap) (L1 : List Loc) (Y1 : YS) (o1 S1 : OS), Inv Y1 o1 S1 → CW E (aYn n) (aOn n) Y1 o1 H1 → MW E (aMn n2) S1 H1 → va_S (AN n) s.heap H1 L1 → W p l e room_1 s m #[Value.ref b] below meth c H1 L1 cells slots Q (F0 m 905 ls [])) : W p l e room_1 s m #[Value.ref b] below meth c H locs cells slots Q (F0 m 557 ls []) := by
  obtain ⟨hx, hb, hml, hown, hB, hK, hX, hbl, hn, hlo, hnn, hL, hcs⟩ := C
  have hbA : ¬ AN n b := by show ¬ n ≤ b; omega
  obtain ⟨r, Y', o', S', e1, e2, hv'⟩ := op_grudge hv
  refine lv_aload_n hx hb dL_law_557 rfl (lv_at hl 1 rfl) ?_
  refine k_VWi ⟨hx, hb, hml, hown, hB⟩ (c_X4_grudge l E (aYn n) (aOn n) Y o (r, Y', o') e1) (clL_77 hB rfl rfl ⟨Nat.le_of_ble_eq_true rfl, Nat.le_of_ble_eq_true rfl⟩) hK hc (rvO0 hK hc) rfl hl.1 rfl (Nat.le_of_ble_eq_true rfl) dL_law_558 hcs hS AC_n (fun H1 L1 hc hz1 hk1 hS => ?_)
  replace hm := MW_kept hm hk1 hlo
  refine lv_aload_n hx hb dL_law_561 rfl (lv_at hl 2 rfl) ?_
  refine k_VWi ⟨hx, hb, hml, hown, hB⟩ (c_X5_grudge l E (aMn n2) S (r, S') e2) (clL_80 hB rfl rfl ⟨Nat.le_of_ble_eq_true rfl, Nat.le_of_ble_eq_true rfl⟩) hK hm (rvM hK hm) rfl hl.1 rfl (Nat.le_of_ble_eq_true rfl) dL_law_562 hcs hS (AM_n hnn) (fun H2 L2 hm hz2 hk2 hS => ?_)
  replace hc := CW_kept hc hk2 hlo
  refine lv_icmp_eq (tgt := 905) hx hb dL_law_565 (by decide) (fun g => ?_) (fun g => absurd rfl g)
  exact kk _ _ Y' o' S' hv' hc hm hS
set_option maxHeartbeats 4000000 in
set_option maxRecDepth 100000 in
theorem law_takes (C : LC p s m c b L n n2 xs E cells slots) (hi : i + 4 ≤ L) (hl : lv_has ls 4 [(0, .ref b), (1, .ref (aOn n 0)), (2, .ref (aMn n2 0)), (3, .int (nI i))]) (hv : Inv Y o S) (hc : CW E (aYn n) (aOn n) Y o H) (hm : MW E (aMn n2) S H) (hS : va_S (AN n) s.heap H locs)
    (kk : ∀ (H1 : Heap) (L1 : List Loc) (Y1 : YS) (o1 S1 : OS), Inv Y1 o1 S1 → CW E (aYn n) (aOn n) Y1 o1 H1 → MW E (aMn n2) S1 H1 → va_S (AN n) s.heap H1 L1 → W p l e room_1 s m #[Value.ref b] below meth c H1 L1 cells slots Q (F0 m 905 ls [])) : W p l e room_1 s m #[Value.ref b] below meth c H locs cells slots Q (F0 m 570 ls []) := by
  obtain ⟨hx, hb, hml, hown, hB, hK, hX, hbl, hn, hlo, hnn, hL, hcs⟩ := C
  have hbA : ¬ AN n b := by show ¬ n ≤ b; omega
  obtain ⟨r, Y', o', S', e1, e2, hv'⟩ := op_takes hv (xs (i + 1))
  refine lv_aload_n hx hb dL_law_570 rfl (lv_at hl 1 rfl) ?_
  refine lv_aload_n hx hb dL_law_571 rfl (lv_at hl 0 rfl) ?_
  refine lv_iload_n hx hb dL_law_572 rfl (lv_at hl 3 rfl) ?_
  refine lv_iconst (v := 1) hx hb dL_law_573 (by decide) ?_
  refine lv_iadd hx hb dL_law_574 ?_
  rw [show nI i + 1 = nI (i + 1) from nI_add i 1]
  refine va_sld hx hb hX hbl hbA hS (vp_in_nI (by omega) (by omega)) dL_law_575 ?_
  rw [nI_clamp (by omega)]
  refine k_VWi ⟨hx, hb, hml, hown, hB⟩ (c_X4_takes l E (aYn n) (aOn n) Y o (xs (i + 1)) (r, Y', o') e1) (clL_81 hB rfl rfl ⟨Nat.le_of_ble_eq_true rfl, Nat.le_of_ble_eq_true rfl⟩) hK hc (rvO0 hK hc) rfl hl.1 rfl (Nat.le_of_ble_eq_true rfl) dL_law_576 hcs hS AC_n (fun H1 L1 hc hz1 hk1 hS => ?_)
  replace hm := MW_kept hm hk1 hlo
  refine lv_aload_n hx hb dL_law_579 rfl (lv_at hl 2 rfl) ?_
  refine lv_aload_n hx hb dL_law_580 rfl (lv_at hl 0 rfl) ?_
  refine lv_iload_n hx hb dL_law_581 rfl (lv_at hl 3 rfl) ?_
  refine lv_iconst (v := 1) hx hb dL_law_582 (by decide) ?_
  refine lv_iadd hx hb dL_law_583 ?_
  rw [show nI i + 1 = nI (i + 1) from nI_add i 1]
  refine va_sld hx hb hX hbl hbA hS (vp_in_nI (by omega) (by omega)) dL_law_584 ?_
  rw [nI_clamp (by omega)]
  refine k_VWi ⟨hx, hb, hml, hown, hB⟩ (c_X5_takes l E (aMn n2) S (xs (i + 1)) (r, S') e2) (clL_84 hB rfl rfl ⟨Nat.le_of_ble_eq_true rfl, Nat.le_of_ble_eq_true rfl⟩) hK hm (rvM hK hm) rfl hl.1 rfl (Nat.le_of_ble_eq_true rfl) dL_law_585 hcs hS (AM_n hnn) (fun H2 L2 hm hz2 hk2 hS => ?_)
  replace hc := CW_kept hc hk2 hlo
  refine lv_icmp_eq (tgt := 905) hx hb dL_law_588 (by decide) (fun g => ?_) (fun g => absurd rfl g)
  exact kk _ _ Y' o' S' hv' hc hm hS
set_option maxHeartbeats 4000000 in
set_option maxRecDepth 100000 in
theorem law_tour (C : LC p s m c b L n n2 xs E cells slots) (hi : i + 4 ≤ L) (hl : lv_has ls 4 [(0, .ref b), (1, .ref (aOn n 0)), (2, .ref (aMn n2 0)), (3, .int (nI i))]) (hv : Inv Y o S) (hc : CW E (aYn n) (aOn n) Y o H) (hm : MW E (aMn n2) S H) (hS : va_S (AN n) s.heap H locs)
    (kk : ∀ (H1 : Heap) (L1 : List Loc) (Y1 : YS) (o1 S1 : OS), Inv Y1 o1 S1 → CW E (aYn n) (aOn n) Y1 o1 H1 → MW E (aMn n2) S1 H1 → va_S (AN n) s.heap H1 L1 → W p l e room_1 s m #[Value.ref b] below meth c H1 L1 cells slots Q (F0 m 905 ls [])) : W p l e room_1 s m #[Value.ref b] below meth c H locs cells slots Q (F0 m 593 ls []) := by
  obtain ⟨hx, hb, hml, hown, hB, hK, hX, hbl, hn, hlo, hnn, hL, hcs⟩ := C
  have hbA : ¬ AN n b := by show ¬ n ≤ b; omega
  obtain ⟨r, Y', o', S', e1, e2, hv'⟩ := op_tour hv (xs (i + 1))
  refine lv_aload_n hx hb dL_law_593 rfl (lv_at hl 1 rfl) ?_
  refine lv_aload_n hx hb dL_law_594 rfl (lv_at hl 0 rfl) ?_
  refine lv_iload_n hx hb dL_law_595 rfl (lv_at hl 3 rfl) ?_
  refine lv_iconst (v := 1) hx hb dL_law_596 (by decide) ?_
  refine lv_iadd hx hb dL_law_597 ?_
  rw [show nI i + 1 = nI (i + 1) from nI_add i 1]
  refine va_sld hx hb hX hbl hbA hS (vp_in_nI (by omega) (by omega)) dL_law_598 ?_
  rw [nI_clamp (by omega)]
  refine k_VWi ⟨hx, hb, hml, hown, hB⟩ (c_X4_tour l E (aYn n) (aOn n) Y o (xs (i + 1)) (r, Y', o') e1) (clL_85 hB rfl rfl ⟨Nat.le_of_ble_eq_true rfl, Nat.le_of_ble_eq_true rfl⟩) hK hc (rvO0 hK hc) rfl hl.1 rfl (Nat.le_of_ble_eq_true rfl) dL_law_599 hcs hS AC_n (fun H1 L1 hc hz1 hk1 hS => ?_)
  replace hm := MW_kept hm hk1 hlo
  refine lv_aload_n hx hb dL_law_602 rfl (lv_at hl 2 rfl) ?_
  refine lv_aload_n hx hb dL_law_603 rfl (lv_at hl 0 rfl) ?_
  refine lv_iload_n hx hb dL_law_604 rfl (lv_at hl 3 rfl) ?_
  refine lv_iconst (v := 1) hx hb dL_law_605 (by decide) ?_
  refine lv_iadd hx hb dL_law_606 ?_
  rw [show nI i + 1 = nI (i + 1) from nI_add i 1]
  refine va_sld hx hb hX hbl hbA hS (vp_in_nI (by omega) (by omega)) dL_law_607 ?_
  rw [nI_clamp (by omega)]
  refine k_VWi ⟨hx, hb, hml, hown, hB⟩ (c_X5_tour l E (aMn n2) S (xs (i + 1)) (r, S') e2) (clL_88 hB rfl rfl ⟨Nat.le_of_ble_eq_true rfl, Nat.le_of_ble_eq_true rfl⟩) hK hm (rvM hK hm) rfl hl.1 rfl (Nat.le_of_ble_eq_true rfl) dL_law_608 hcs hS (AM_n hnn) (fun H2 L2 hm hz2 hk2 hS => ?_)
  replace hc := CW_kept hc hk2 hlo
  refine lv_icmp_eq (tgt := 905) hx hb dL_law_611 (by decide) (fun g => ?_) (fun g => absurd rfl g)
  exact kk _ _ Y' o' S' hv' hc hm hS
set_option maxHeartbeats 4000000 in
set_option maxRecDepth 100000 in
theorem law_enough (C : LC p s m c b L n n2 xs E cells slots) (hi : i + 4 ≤ L) (hl : lv_has ls 4 [(0, .ref b), (1, .ref (aOn n 0)), (2, .ref (aMn n2 0)), (3, .int (nI i))]) (hv : Inv Y o S) (hc : CW E (aYn n) (aOn n) Y o H) (hm : MW E (aMn n2) S H) (hS : va_S (AN n) s.heap H locs)
    (kk : ∀ (H1 : Heap) (L1 : List Loc) (Y1 : YS) (o1 S1 : OS), Inv Y1 o1 S1 → CW E (aYn n) (aOn n) Y1 o1 H1 → MW E (aMn n2) S1 H1 → va_S (AN n) s.heap H1 L1 → W p l e room_1 s m #[Value.ref b] below meth c H1 L1 cells slots Q (F0 m 905 ls [])) : W p l e room_1 s m #[Value.ref b] below meth c H locs cells slots Q (F0 m 616 ls []) := by
  obtain ⟨hx, hb, hml, hown, hB, hK, hX, hbl, hn, hlo, hnn, hL, hcs⟩ := C
  have hbA : ¬ AN n b := by show ¬ n ≤ b; omega
  obtain ⟨r, Y', o', S', e1, e2, hv'⟩ := op_enough hv
  refine lv_aload_n hx hb dL_law_616 rfl (lv_at hl 1 rfl) ?_
  refine k_VWi ⟨hx, hb, hml, hown, hB⟩ (c_X4_enough l E (aYn n) (aOn n) Y o (r, Y', o') e1) (clL_89 hB rfl rfl ⟨Nat.le_of_ble_eq_true rfl, Nat.le_of_ble_eq_true rfl⟩) hK hc (rvO0 hK hc) rfl hl.1 rfl (Nat.le_of_ble_eq_true rfl) dL_law_617 hcs hS AC_n (fun H1 L1 hc hz1 hk1 hS => ?_)
  replace hm := MW_kept hm hk1 hlo
  refine lv_aload_n hx hb dL_law_620 rfl (lv_at hl 2 rfl) ?_
  refine k_VWi ⟨hx, hb, hml, hown, hB⟩ (c_X5_enough l E (aMn n2) S (r, S') e2) (clL_92 hB rfl rfl ⟨Nat.le_of_ble_eq_true rfl, Nat.le_of_ble_eq_true rfl⟩) hK hm (rvM hK hm) rfl hl.1 rfl (Nat.le_of_ble_eq_true rfl) dL_law_621 hcs hS (AM_n hnn) (fun H2 L2 hm hz2 hk2 hS => ?_)
  replace hc := CW_kept hc hk2 hlo
  refine lv_icmp_eq (tgt := 905) hx hb dL_law_624 (by decide) (fun g => ?_) (fun g => absurd rfl g)
  exact kk _ _ Y' o' S' hv' hc hm hS
set_option maxHeartbeats 4000000 in
set_option maxRecDepth 100000 in
theorem law_leave (C : LC p s m c b L n n2 xs E cells slots) (hi : i + 4 ≤ L) (hl : lv_has ls 4 [(0, .ref b), (1, .ref (aOn n 0)), (2, .ref (aMn n2 0)), (3, .int (nI i))]) (hv : Inv Y o S) (hc : CW E (aYn n) (aOn n) Y o H) (hm : MW E (aMn n2) S H) (hS : va_S (AN n) s.heap H locs)
    (kk : ∀ (H1 : Heap) (L1 : List Loc) (Y1 : YS) (o1 S1 : OS), Inv Y1 o1 S1 → CW E (aYn n) (aOn n) Y1 o1 H1 → MW E (aMn n2) S1 H1 → va_S (AN n) s.heap H1 L1 → W p l e room_1 s m #[Value.ref b] below meth c H1 L1 cells slots Q (F0 m 905 ls [])) : W p l e room_1 s m #[Value.ref b] below meth c H locs cells slots Q (F0 m 629 ls []) := by
  obtain ⟨hx, hb, hml, hown, hB, hK, hX, hbl, hn, hlo, hnn, hL, hcs⟩ := C
  have hbA : ¬ AN n b := by show ¬ n ≤ b; omega
  obtain ⟨r, Y', o', S', e1, e2, hv'⟩ := op_leave hv
  refine lv_aload_n hx hb dL_law_629 rfl (lv_at hl 1 rfl) ?_
  refine k_VWi ⟨hx, hb, hml, hown, hB⟩ (c_X4_leave l E (aYn n) (aOn n) Y o (r, Y', o') e1) (clL_93 hB rfl rfl ⟨Nat.le_of_ble_eq_true rfl, Nat.le_of_ble_eq_true rfl⟩) hK hc (rvO0 hK hc) rfl hl.1 rfl (Nat.le_of_ble_eq_true rfl) dL_law_630 hcs hS AC_n (fun H1 L1 hc hz1 hk1 hS => ?_)
  replace hm := MW_kept hm hk1 hlo
  refine lv_aload_n hx hb dL_law_633 rfl (lv_at hl 2 rfl) ?_
  refine k_VWi ⟨hx, hb, hml, hown, hB⟩ (c_X5_leave l E (aMn n2) S (r, S') e2) (clL_96 hB rfl rfl ⟨Nat.le_of_ble_eq_true rfl, Nat.le_of_ble_eq_true rfl⟩) hK hm (rvM hK hm) rfl hl.1 rfl (Nat.le_of_ble_eq_true rfl) dL_law_634 hcs hS (AM_n hnn) (fun H2 L2 hm hz2 hk2 hS => ?_)
  replace hc := CW_kept hc hk2 hlo
  refine lv_icmp_eq (tgt := 905) hx hb dL_law_637 (by decide) (fun g => ?_) (fun g => absurd rfl g)
  exact kk _ _ Y' o' S' hv' hc hm hS
set_option maxHeartbeats 4000000 in
set_option maxRecDepth 100000 in
theorem law_seen (C : LC p s m c b L n n2 xs E cells slots) (hi : i + 4 ≤ L) (hl : lv_has ls 4 [(0, .ref b), (1, .ref (aOn n 0)), (2, .ref (aMn n2 0)), (3, .int (nI i))]) (hv : Inv Y o S) (hc : CW E (aYn n) (aOn n) Y o H) (hm : MW E (aMn n2) S H) (hS : va_S (AN n) s.heap H locs)
    (kk : ∀ (H1 : Heap) (L1 : List Loc) (Y1 : YS) (o1 S1 : OS), Inv Y1 o1 S1 → CW E (aYn n) (aOn n) Y1 o1 H1 → MW E (aMn n2) S1 H1 → va_S (AN n) s.heap H1 L1 → W p l e room_1 s m #[Value.ref b] below meth c H1 L1 cells slots Q (F0 m 905 ls [])) : W p l e room_1 s m #[Value.ref b] below meth c H locs cells slots Q (F0 m 642 ls []) := by
  obtain ⟨hx, hb, hml, hown, hB, hK, hX, hbl, hn, hlo, hnn, hL, hcs⟩ := C
  have hbA : ¬ AN n b := by show ¬ n ≤ b; omega
  obtain ⟨r, Y', o', S', e1, e2, hv'⟩ := op_seen hv (xs (i + 1)) (xs (i + 2))
  refine lv_aload_n hx hb dL_law_642 rfl (lv_at hl 1 rfl) ?_
  refine lv_aload_n hx hb dL_law_643 rfl (lv_at hl 0 rfl) ?_
  refine lv_iload_n hx hb dL_law_644 rfl (lv_at hl 3 rfl) ?_
  refine lv_iconst (v := 1) hx hb dL_law_645 (by decide) ?_
  refine lv_iadd hx hb dL_law_646 ?_
  rw [show nI i + 1 = nI (i + 1) from nI_add i 1]
  refine va_sld hx hb hX hbl hbA hS (vp_in_nI (by omega) (by omega)) dL_law_647 ?_
  rw [nI_clamp (by omega)]
  refine lv_aload_n hx hb dL_law_648 rfl (lv_at hl 0 rfl) ?_
  refine lv_iload_n hx hb dL_law_649 rfl (lv_at hl 3 rfl) ?_
  refine lv_iconst (v := 2) hx hb dL_law_650 (by decide) ?_
  refine lv_iadd hx hb dL_law_651 ?_
  rw [show nI i + 2 = nI (i + 2) from nI_add i 2]
  refine va_sld hx hb hX hbl hbA hS (vp_in_nI (by omega) (by omega)) dL_law_652 ?_
  rw [nI_clamp (by omega)]
  refine k_VWi ⟨hx, hb, hml, hown, hB⟩ (c_X4_seen l E (aYn n) (aOn n) Y o (xs (i + 1)) (xs (i + 2)) (r, Y', o') e1) (clL_97 hB rfl rfl ⟨Nat.le_of_ble_eq_true rfl, Nat.le_of_ble_eq_true rfl⟩) hK hc (rvO0 hK hc) rfl hl.1 rfl (Nat.le_of_ble_eq_true rfl) dL_law_653 hcs hS AC_n (fun H1 L1 hc hz1 hk1 hS => ?_)
  replace hm := MW_kept hm hk1 hlo
  refine lv_aload_n hx hb dL_law_656 rfl (lv_at hl 2 rfl) ?_
  refine lv_aload_n hx hb dL_law_657 rfl (lv_at hl 0 rfl) ?_
  refine lv_iload_n hx hb dL_law_658 rfl (lv_at hl 3 rfl) ?_
  refine lv_iconst (v := 1) hx hb dL_law_659 (by decide) ?_
  refine lv_iadd hx hb dL_law_660 ?_
  rw [show nI i + 1 = nI (i + 1) from nI_add i 1]
  refine va_sld hx hb hX hbl hbA hS (vp_in_nI (by omega) (by omega)) dL_law_661 ?_
  rw [nI_clamp (by omega)]
  refine lv_aload_n hx hb dL_law_662 rfl (lv_at hl 0 rfl) ?_
  refine lv_iload_n hx hb dL_law_663 rfl (lv_at hl 3 rfl) ?_
  refine lv_iconst (v := 2) hx hb dL_law_664 (by decide) ?_
  refine lv_iadd hx hb dL_law_665 ?_
  rw [show nI i + 2 = nI (i + 2) from nI_add i 2]
  refine va_sld hx hb hX hbl hbA hS (vp_in_nI (by omega) (by omega)) dL_law_666 ?_
  rw [nI_clamp (by omega)]
  refine k_VWi ⟨hx, hb, hml, hown, hB⟩ (c_X5_seen l E (aMn n2) S (xs (i + 1)) (xs (i + 2)) (r, S') e2) (clL_100 hB rfl rfl ⟨Nat.le_of_ble_eq_true rfl, Nat.le_of_ble_eq_true rfl⟩) hK hm (rvM hK hm) rfl hl.1 rfl (Nat.le_of_ble_eq_true rfl) dL_law_667 hcs hS (AM_n hnn) (fun H2 L2 hm hz2 hk2 hS => ?_)
  replace hc := CW_kept hc hk2 hlo
  refine lv_icmp_eq (tgt := 905) hx hb dL_law_670 (by decide) (fun g => ?_) (fun g => absurd rfl g)
  exact kk _ _ Y' o' S' hv' hc hm hS
set_option maxHeartbeats 4000000 in
set_option maxRecDepth 100000 in
theorem law_forget (C : LC p s m c b L n n2 xs E cells slots) (hi : i + 4 ≤ L) (hl : lv_has ls 4 [(0, .ref b), (1, .ref (aOn n 0)), (2, .ref (aMn n2 0)), (3, .int (nI i))]) (hv : Inv Y o S) (hc : CW E (aYn n) (aOn n) Y o H) (hm : MW E (aMn n2) S H) (hS : va_S (AN n) s.heap H locs)
    (kk : ∀ (H1 : Heap) (L1 : List Loc) (Y1 : YS) (o1 S1 : OS), Inv Y1 o1 S1 → CW E (aYn n) (aOn n) Y1 o1 H1 → MW E (aMn n2) S1 H1 → va_S (AN n) s.heap H1 L1 → W p l e room_1 s m #[Value.ref b] below meth c H1 L1 cells slots Q (F0 m 905 ls [])) : W p l e room_1 s m #[Value.ref b] below meth c H locs cells slots Q (F0 m 675 ls []) := by
  obtain ⟨hx, hb, hml, hown, hB, hK, hX, hbl, hn, hlo, hnn, hL, hcs⟩ := C
  have hbA : ¬ AN n b := by show ¬ n ≤ b; omega
  obtain ⟨r, Y', o', S', e1, e2, hv'⟩ := op_forget hv
  refine lv_aload_n hx hb dL_law_675 rfl (lv_at hl 1 rfl) ?_
  refine k_VWi ⟨hx, hb, hml, hown, hB⟩ (c_X4_forget l E (aYn n) (aOn n) Y o (r, Y', o') e1) (clL_101 hB rfl rfl ⟨Nat.le_of_ble_eq_true rfl, Nat.le_of_ble_eq_true rfl⟩) hK hc (rvO0 hK hc) rfl hl.1 rfl (Nat.le_of_ble_eq_true rfl) dL_law_676 hcs hS AC_n (fun H1 L1 hc hz1 hk1 hS => ?_)
  replace hm := MW_kept hm hk1 hlo
  refine lv_aload_n hx hb dL_law_679 rfl (lv_at hl 2 rfl) ?_
  refine k_VWi ⟨hx, hb, hml, hown, hB⟩ (c_X5_forget l E (aMn n2) S (r, S') e2) (clL_104 hB rfl rfl ⟨Nat.le_of_ble_eq_true rfl, Nat.le_of_ble_eq_true rfl⟩) hK hm (rvM hK hm) rfl hl.1 rfl (Nat.le_of_ble_eq_true rfl) dL_law_680 hcs hS (AM_n hnn) (fun H2 L2 hm hz2 hk2 hS => ?_)
  replace hc := CW_kept hc hk2 hlo
  refine lv_icmp_eq (tgt := 905) hx hb dL_law_683 (by decide) (fun g => ?_) (fun g => absurd rfl g)
  exact kk _ _ Y' o' S' hv' hc hm hS
set_option maxHeartbeats 4000000 in
set_option maxRecDepth 100000 in
theorem law_was (C : LC p s m c b L n n2 xs E cells slots) (hi : i + 4 ≤ L) (hl : lv_has ls 4 [(0, .ref b), (1, .ref (aOn n 0)), (2, .ref (aMn n2 0)), (3, .int (nI i))]) (hv : Inv Y o S) (hc : CW E (aYn n) (aOn n) Y o H) (hm : MW E (aMn n2) S H) (hS : va_S (AN n) s.heap H locs)
    (kk : ∀ (H1 : Heap) (L1 : List Loc) (Y1 : YS) (o1 S1 : OS), Inv Y1 o1 S1 → CW E (aYn n) (aOn n) Y1 o1 H1 → MW E (aMn n2) S1 H1 → va_S (AN n) s.heap H1 L1 → W p l e room_1 s m #[Value.ref b] below meth c H1 L1 cells slots Q (F0 m 905 ls [])) : W p l e room_1 s m #[Value.ref b] below meth c H locs cells slots Q (F0 m 688 ls []) := by
  obtain ⟨hx, hb, hml, hown, hB, hK, hX, hbl, hn, hlo, hnn, hL, hcs⟩ := C
  have hbA : ¬ AN n b := by show ¬ n ≤ b; omega
  obtain ⟨r, Y', o', S', e1, e2, hv'⟩ := op_was hv (xs (i + 1))
  refine lv_aload_n hx hb dL_law_688 rfl (lv_at hl 1 rfl) ?_
  refine lv_aload_n hx hb dL_law_689 rfl (lv_at hl 0 rfl) ?_
  refine lv_iload_n hx hb dL_law_690 rfl (lv_at hl 3 rfl) ?_
  refine lv_iconst (v := 1) hx hb dL_law_691 (by decide) ?_
  refine lv_iadd hx hb dL_law_692 ?_
  rw [show nI i + 1 = nI (i + 1) from nI_add i 1]
  refine va_sld hx hb hX hbl hbA hS (vp_in_nI (by omega) (by omega)) dL_law_693 ?_
  rw [nI_clamp (by omega)]
  refine k_VWi ⟨hx, hb, hml, hown, hB⟩ (c_X4_was l E (aYn n) (aOn n) Y o (xs (i + 1)) (r, Y', o') e1) (clL_105 hB rfl rfl ⟨Nat.le_of_ble_eq_true rfl, Nat.le_of_ble_eq_true rfl⟩) hK hc (rvO0 hK hc) rfl hl.1 rfl (Nat.le_of_ble_eq_true rfl) dL_law_694 hcs hS AC_n (fun H1 L1 hc hz1 hk1 hS => ?_)
  replace hm := MW_kept hm hk1 hlo
  refine lv_aload_n hx hb dL_law_697 rfl (lv_at hl 2 rfl) ?_
  refine lv_aload_n hx hb dL_law_698 rfl (lv_at hl 0 rfl) ?_
  refine lv_iload_n hx hb dL_law_699 rfl (lv_at hl 3 rfl) ?_
  refine lv_iconst (v := 1) hx hb dL_law_700 (by decide) ?_
  refine lv_iadd hx hb dL_law_701 ?_
  rw [show nI i + 1 = nI (i + 1) from nI_add i 1]
  refine va_sld hx hb hX hbl hbA hS (vp_in_nI (by omega) (by omega)) dL_law_702 ?_
  rw [nI_clamp (by omega)]
  refine k_VWi ⟨hx, hb, hml, hown, hB⟩ (c_X5_was l E (aMn n2) S (xs (i + 1)) (r, S') e2) (clL_108 hB rfl rfl ⟨Nat.le_of_ble_eq_true rfl, Nat.le_of_ble_eq_true rfl⟩) hK hm (rvM hK hm) rfl hl.1 rfl (Nat.le_of_ble_eq_true rfl) dL_law_703 hcs hS (AM_n hnn) (fun H2 L2 hm hz2 hk2 hS => ?_)
  replace hc := CW_kept hc hk2 hlo
  refine lv_icmp_eq (tgt := 905) hx hb dL_law_706 (by decide) (fun g => ?_) (fun g => absurd rfl g)
  exact kk _ _ Y' o' S' hv' hc hm hS
set_option maxHeartbeats 4000000 in
set_option maxRecDepth 100000 in
theorem law_owed (C : LC p s m c b L n n2 xs E cells slots) (hi : i + 4 ≤ L) (hl : lv_has ls 4 [(0, .ref b), (1, .ref (aOn n 0)), (2, .ref (aMn n2 0)), (3, .int (nI i))]) (hv : Inv Y o S) (hc : CW E (aYn n) (aOn n) Y o H) (hm : MW E (aMn n2) S H) (hS : va_S (AN n) s.heap H locs)
    (kk : ∀ (H1 : Heap) (L1 : List Loc) (Y1 : YS) (o1 S1 : OS), Inv Y1 o1 S1 → CW E (aYn n) (aOn n) Y1 o1 H1 → MW E (aMn n2) S1 H1 → va_S (AN n) s.heap H1 L1 → W p l e room_1 s m #[Value.ref b] below meth c H1 L1 cells slots Q (F0 m 905 ls [])) : W p l e room_1 s m #[Value.ref b] below meth c H locs cells slots Q (F0 m 711 ls []) := by
  obtain ⟨hx, hb, hml, hown, hB, hK, hX, hbl, hn, hlo, hnn, hL, hcs⟩ := C
  have hbA : ¬ AN n b := by show ¬ n ≤ b; omega
  obtain ⟨r, e1, e2⟩ := op_owed hv (xs (i + 1))
  refine lv_aload_n hx hb dL_law_711 rfl (lv_at hl 1 rfl) ?_
  refine lv_aload_n hx hb dL_law_712 rfl (lv_at hl 0 rfl) ?_
  refine lv_iload_n hx hb dL_law_713 rfl (lv_at hl 3 rfl) ?_
  refine lv_iconst (v := 1) hx hb dL_law_714 (by decide) ?_
  refine lv_iadd hx hb dL_law_715 ?_
  rw [show nI i + 1 = nI (i + 1) from nI_add i 1]
  refine va_sld hx hb hX hbl hbA hS (vp_in_nI (by omega) (by omega)) dL_law_716 ?_
  rw [nI_clamp (by omega)]
  refine k_VR ⟨hx, hb, hml, hown, hB⟩ (c_X4_owed l E (aYn n) (aOn n) Y o (xs (i + 1)) r e1) (clL_109 hB rfl rfl ⟨Nat.le_of_ble_eq_true rfl, Nat.le_of_ble_eq_true rfl⟩) hK hc (rvO0 hK hc) rfl hl.1 rfl (Nat.le_of_ble_eq_true rfl) dL_law_717 hcs ?_
  refine lv_aload_n hx hb dL_law_720 rfl (lv_at hl 2 rfl) ?_
  refine lv_aload_n hx hb dL_law_721 rfl (lv_at hl 0 rfl) ?_
  refine lv_iload_n hx hb dL_law_722 rfl (lv_at hl 3 rfl) ?_
  refine lv_iconst (v := 1) hx hb dL_law_723 (by decide) ?_
  refine lv_iadd hx hb dL_law_724 ?_
  rw [show nI i + 1 = nI (i + 1) from nI_add i 1]
  refine va_sld hx hb hX hbl hbA hS (vp_in_nI (by omega) (by omega)) dL_law_725 ?_
  rw [nI_clamp (by omega)]
  refine k_VR ⟨hx, hb, hml, hown, hB⟩ (c_X5_owed l E (aMn n2) S (xs (i + 1)) r e2) (clL_112 hB rfl rfl ⟨Nat.le_of_ble_eq_true rfl, Nat.le_of_ble_eq_true rfl⟩) hK hm (rvM hK hm) rfl hl.1 rfl (Nat.le_of_ble_eq_true rfl) dL_law_726 hcs ?_
  refine lv_icmp_eq (tgt := 905) hx hb dL_law_729 (by decide) (fun g => ?_) (fun g => absurd rfl g)
  exact kk H locs Y o S hv hc hm hS
set_option maxHeartbeats 4000000 in
set_option maxRecDepth 100000 in
theorem law_balance (C : LC p s m c b L n n2 xs E cells slots) (hi : i + 4 ≤ L) (hl : lv_has ls 4 [(0, .ref b), (1, .ref (aOn n 0)), (2, .ref (aMn n2 0)), (3, .int (nI i))]) (hv : Inv Y o S) (hc : CW E (aYn n) (aOn n) Y o H) (hm : MW E (aMn n2) S H) (hS : va_S (AN n) s.heap H locs)
    (kk : ∀ (H1 : Heap) (L1 : List Loc) (Y1 : YS) (o1 S1 : OS), Inv Y1 o1 S1 → CW E (aYn n) (aOn n) Y1 o1 H1 → MW E (aMn n2) S1 H1 → va_S (AN n) s.heap H1 L1 → W p l e room_1 s m #[Value.ref b] below meth c H1 L1 cells slots Q (F0 m 905 ls [])) : W p l e room_1 s m #[Value.ref b] below meth c H locs cells slots Q (F0 m 734 ls []) := by
  obtain ⟨hx, hb, hml, hown, hB, hK, hX, hbl, hn, hlo, hnn, hL, hcs⟩ := C
  have hbA : ¬ AN n b := by show ¬ n ≤ b; omega
  obtain ⟨r, e1, e2⟩ := op_balance hv
  refine lv_aload_n hx hb dL_law_734 rfl (lv_at hl 1 rfl) ?_
  refine k_VR ⟨hx, hb, hml, hown, hB⟩ (c_X4_balance l E (aYn n) (aOn n) Y o r e1) (clL_113 hB rfl rfl ⟨Nat.le_of_ble_eq_true rfl, Nat.le_of_ble_eq_true rfl⟩) hK hc (rvO0 hK hc) rfl hl.1 rfl (Nat.le_of_ble_eq_true rfl) dL_law_735 hcs ?_
  refine lv_aload_n hx hb dL_law_738 rfl (lv_at hl 2 rfl) ?_
  refine k_VR ⟨hx, hb, hml, hown, hB⟩ (c_X5_balance l E (aMn n2) S r e2) (clL_116 hB rfl rfl ⟨Nat.le_of_ble_eq_true rfl, Nat.le_of_ble_eq_true rfl⟩) hK hm (rvM hK hm) rfl hl.1 rfl (Nat.le_of_ble_eq_true rfl) dL_law_739 hcs ?_
  refine lv_icmp_eq (tgt := 905) hx hb dL_law_742 (by decide) (fun g => ?_) (fun g => absurd rfl g)
  exact kk H locs Y o S hv hc hm hS
set_option maxHeartbeats 4000000 in
set_option maxRecDepth 100000 in
theorem law_names (C : LC p s m c b L n n2 xs E cells slots) (hi : i + 4 ≤ L) (hl : lv_has ls 4 [(0, .ref b), (1, .ref (aOn n 0)), (2, .ref (aMn n2 0)), (3, .int (nI i))]) (hv : Inv Y o S) (hc : CW E (aYn n) (aOn n) Y o H) (hm : MW E (aMn n2) S H) (hS : va_S (AN n) s.heap H locs)
    (kk : ∀ (H1 : Heap) (L1 : List Loc) (Y1 : YS) (o1 S1 : OS), Inv Y1 o1 S1 → CW E (aYn n) (aOn n) Y1 o1 H1 → MW E (aMn n2) S1 H1 → va_S (AN n) s.heap H1 L1 → W p l e room_1 s m #[Value.ref b] below meth c H1 L1 cells slots Q (F0 m 905 ls [])) : W p l e room_1 s m #[Value.ref b] below meth c H locs cells slots Q (F0 m 747 ls []) := by
  obtain ⟨hx, hb, hml, hown, hB, hK, hX, hbl, hn, hlo, hnn, hL, hcs⟩ := C
  have hbA : ¬ AN n b := by show ¬ n ≤ b; omega
  obtain ⟨r, e1, e2⟩ := op_names hv (xs (i + 1))
  refine lv_aload_n hx hb dL_law_747 rfl (lv_at hl 1 rfl) ?_
  refine lv_aload_n hx hb dL_law_748 rfl (lv_at hl 0 rfl) ?_
  refine lv_iload_n hx hb dL_law_749 rfl (lv_at hl 3 rfl) ?_
  refine lv_iconst (v := 1) hx hb dL_law_750 (by decide) ?_
  refine lv_iadd hx hb dL_law_751 ?_
  rw [show nI i + 1 = nI (i + 1) from nI_add i 1]
  refine va_sld hx hb hX hbl hbA hS (vp_in_nI (by omega) (by omega)) dL_law_752 ?_
  rw [nI_clamp (by omega)]
  refine k_VR ⟨hx, hb, hml, hown, hB⟩ (c_X4_names l E (aYn n) (aOn n) Y o (xs (i + 1)) r e1) (clL_117 hB rfl rfl ⟨Nat.le_of_ble_eq_true rfl, Nat.le_of_ble_eq_true rfl⟩) hK hc (rvO0 hK hc) rfl hl.1 rfl (Nat.le_of_ble_eq_true rfl) dL_law_753 hcs ?_
  refine lv_aload_n hx hb dL_law_756 rfl (lv_at hl 2 rfl) ?_
  refine lv_aload_n hx hb dL_law_757 rfl (lv_at hl 0 rfl) ?_
  refine lv_iload_n hx hb dL_law_758 rfl (lv_at hl 3 rfl) ?_
  refine lv_iconst (v := 1) hx hb dL_law_759 (by decide) ?_
  refine lv_iadd hx hb dL_law_760 ?_
  rw [show nI i + 1 = nI (i + 1) from nI_add i 1]
  refine va_sld hx hb hX hbl hbA hS (vp_in_nI (by omega) (by omega)) dL_law_761 ?_
  rw [nI_clamp (by omega)]
  refine k_VR ⟨hx, hb, hml, hown, hB⟩ (c_X5_names l E (aMn n2) S (xs (i + 1)) r e2) (clL_120 hB rfl rfl ⟨Nat.le_of_ble_eq_true rfl, Nat.le_of_ble_eq_true rfl⟩) hK hm (rvM hK hm) rfl hl.1 rfl (Nat.le_of_ble_eq_true rfl) dL_law_762 hcs ?_
  refine lv_icmp_eq (tgt := 905) hx hb dL_law_765 (by decide) (fun g => ?_) (fun g => absurd rfl g)
  exact kk H locs Y o S hv hc hm hS
set_option maxHeartbeats 4000000 in
set_option maxRecDepth 100000 in
theorem law_next (C : LC p s m c b L n n2 xs E cells slots) (hi : i + 4 ≤ L) (hl : lv_has ls 4 [(0, .ref b), (1, .ref (aOn n 0)), (2, .ref (aMn n2 0)), (3, .int (nI i))]) (hv : Inv Y o S) (hc : CW E (aYn n) (aOn n) Y o H) (hm : MW E (aMn n2) S H) (hS : va_S (AN n) s.heap H locs)
    (kk : ∀ (H1 : Heap) (L1 : List Loc) (Y1 : YS) (o1 S1 : OS), Inv Y1 o1 S1 → CW E (aYn n) (aOn n) Y1 o1 H1 → MW E (aMn n2) S1 H1 → va_S (AN n) s.heap H1 L1 → W p l e room_1 s m #[Value.ref b] below meth c H1 L1 cells slots Q (F0 m 905 ls [])) : W p l e room_1 s m #[Value.ref b] below meth c H locs cells slots Q (F0 m 770 ls []) := by
  obtain ⟨hx, hb, hml, hown, hB, hK, hX, hbl, hn, hlo, hnn, hL, hcs⟩ := C
  have hbA : ¬ AN n b := by show ¬ n ≤ b; omega
  obtain ⟨r, S', e1, e2, hv'⟩ := op_next hv (xs (i + 1)) (xs (i + 2)) (xs (i + 3))
  refine lv_aload_n hx hb dL_law_770 rfl (lv_at hl 1 rfl) ?_
  refine lv_aload_n hx hb dL_law_771 rfl (lv_at hl 0 rfl) ?_
  refine lv_iload_n hx hb dL_law_772 rfl (lv_at hl 3 rfl) ?_
  refine lv_iconst (v := 1) hx hb dL_law_773 (by decide) ?_
  refine lv_iadd hx hb dL_law_774 ?_
  rw [show nI i + 1 = nI (i + 1) from nI_add i 1]
  refine va_sld hx hb hX hbl hbA hS (vp_in_nI (by omega) (by omega)) dL_law_775 ?_
  rw [nI_clamp (by omega)]
  refine lv_aload_n hx hb dL_law_776 rfl (lv_at hl 0 rfl) ?_
  refine lv_iload_n hx hb dL_law_777 rfl (lv_at hl 3 rfl) ?_
  refine lv_iconst (v := 2) hx hb dL_law_778 (by decide) ?_
  refine lv_iadd hx hb dL_law_779 ?_
  rw [show nI i + 2 = nI (i + 2) from nI_add i 2]
  refine va_sld hx hb hX hbl hbA hS (vp_in_nI (by omega) (by omega)) dL_law_780 ?_
  rw [nI_clamp (by omega)]
  refine lv_aload_n hx hb dL_law_781 rfl (lv_at hl 0 rfl) ?_
  refine lv_iload_n hx hb dL_law_782 rfl (lv_at hl 3 rfl) ?_
  refine lv_iconst (v := 3) hx hb dL_law_783 (by decide) ?_
  refine lv_iadd hx hb dL_law_784 ?_
  rw [show nI i + 3 = nI (i + 3) from nI_add i 3]
  refine va_sld hx hb hX hbl hbA hS (vp_in_nI (by omega) (by omega)) dL_law_785 ?_
  rw [nI_clamp (by omega)]
  refine k_VR ⟨hx, hb, hml, hown, hB⟩ (c_X4_next l E (aYn n) (aOn n) Y o (xs (i + 1)) (xs (i + 2)) (xs (i + 3)) r e1) (clL_121 hB rfl rfl ⟨Nat.le_of_ble_eq_true rfl, Nat.le_of_ble_eq_true rfl⟩) hK hc (rvO0 hK hc) rfl hl.1 rfl (Nat.le_of_ble_eq_true rfl) dL_law_786 hcs ?_
  refine lv_aload_n hx hb dL_law_789 rfl (lv_at hl 2 rfl) ?_
  refine lv_aload_n hx hb dL_law_790 rfl (lv_at hl 0 rfl) ?_
  refine lv_iload_n hx hb dL_law_791 rfl (lv_at hl 3 rfl) ?_
  refine lv_iconst (v := 1) hx hb dL_law_792 (by decide) ?_
  refine lv_iadd hx hb dL_law_793 ?_
  rw [show nI i + 1 = nI (i + 1) from nI_add i 1]
  refine va_sld hx hb hX hbl hbA hS (vp_in_nI (by omega) (by omega)) dL_law_794 ?_
  rw [nI_clamp (by omega)]
  refine lv_aload_n hx hb dL_law_795 rfl (lv_at hl 0 rfl) ?_
  refine lv_iload_n hx hb dL_law_796 rfl (lv_at hl 3 rfl) ?_
  refine lv_iconst (v := 2) hx hb dL_law_797 (by decide) ?_
  refine lv_iadd hx hb dL_law_798 ?_
  rw [show nI i + 2 = nI (i + 2) from nI_add i 2]
  refine va_sld hx hb hX hbl hbA hS (vp_in_nI (by omega) (by omega)) dL_law_799 ?_
  rw [nI_clamp (by omega)]
  refine lv_aload_n hx hb dL_law_800 rfl (lv_at hl 0 rfl) ?_
  refine lv_iload_n hx hb dL_law_801 rfl (lv_at hl 3 rfl) ?_
  refine lv_iconst (v := 3) hx hb dL_law_802 (by decide) ?_
  refine lv_iadd hx hb dL_law_803 ?_
  rw [show nI i + 3 = nI (i + 3) from nI_add i 3]
  refine va_sld hx hb hX hbl hbA hS (vp_in_nI (by omega) (by omega)) dL_law_804 ?_
  rw [nI_clamp (by omega)]
  refine k_VWi ⟨hx, hb, hml, hown, hB⟩ (c_X5_next l E (aMn n2) S (xs (i + 1)) (xs (i + 2)) (xs (i + 3)) (r, S') e2) (clL_124 hB rfl rfl ⟨Nat.le_of_ble_eq_true rfl, Nat.le_of_ble_eq_true rfl⟩) hK hm (rvM hK hm) rfl hl.1 rfl (Nat.le_of_ble_eq_true rfl) dL_law_805 hcs hS (AM_n hnn) (fun H2 L2 hm hz2 hk2 hS => ?_)
  replace hc := CW_kept hc hk2 hlo
  refine lv_icmp_eq (tgt := 905) hx hb dL_law_808 (by decide) (fun g => ?_) (fun g => absurd rfl g)
  exact kk _ _ Y o S' hv' hc hm hS
set_option maxHeartbeats 4000000 in
set_option maxRecDepth 100000 in
theorem law_year (C : LC p s m c b L n n2 xs E cells slots) (hi : i + 4 ≤ L) (hl : lv_has ls 4 [(0, .ref b), (1, .ref (aOn n 0)), (2, .ref (aMn n2 0)), (3, .int (nI i))]) (hv : Inv Y o S) (hc : CW E (aYn n) (aOn n) Y o H) (hm : MW E (aMn n2) S H) (hS : va_S (AN n) s.heap H locs)
    (kk : ∀ (H1 : Heap) (L1 : List Loc) (Y1 : YS) (o1 S1 : OS), Inv Y1 o1 S1 → CW E (aYn n) (aOn n) Y1 o1 H1 → MW E (aMn n2) S1 H1 → va_S (AN n) s.heap H1 L1 → W p l e room_1 s m #[Value.ref b] below meth c H1 L1 cells slots Q (F0 m 905 ls [])) : W p l e room_1 s m #[Value.ref b] below meth c H locs cells slots Q (F0 m 813 ls []) := by
  obtain ⟨hx, hb, hml, hown, hB, hK, hX, hbl, hn, hlo, hnn, hL, hcs⟩ := C
  have hbA : ¬ AN n b := by show ¬ n ≤ b; omega
  obtain ⟨r, Y', o', S', e1, e2, hv'⟩ := op_year hv (xs (i + 1)) (xs (i + 2)) (xs (i + 3))
  refine lv_aload_n hx hb dL_law_813 rfl (lv_at hl 1 rfl) ?_
  refine lv_aload_n hx hb dL_law_814 rfl (lv_at hl 0 rfl) ?_
  refine lv_iload_n hx hb dL_law_815 rfl (lv_at hl 3 rfl) ?_
  refine lv_iconst (v := 1) hx hb dL_law_816 (by decide) ?_
  refine lv_iadd hx hb dL_law_817 ?_
  rw [show nI i + 1 = nI (i + 1) from nI_add i 1]
  refine va_sld hx hb hX hbl hbA hS (vp_in_nI (by omega) (by omega)) dL_law_818 ?_
  rw [nI_clamp (by omega)]
  refine lv_aload_n hx hb dL_law_819 rfl (lv_at hl 0 rfl) ?_
  refine lv_iload_n hx hb dL_law_820 rfl (lv_at hl 3 rfl) ?_
  refine lv_iconst (v := 2) hx hb dL_law_821 (by decide) ?_
  refine lv_iadd hx hb dL_law_822 ?_
  rw [show nI i + 2 = nI (i + 2) from nI_add i 2]
  refine va_sld hx hb hX hbl hbA hS (vp_in_nI (by omega) (by omega)) dL_law_823 ?_
  rw [nI_clamp (by omega)]
  refine lv_aload_n hx hb dL_law_824 rfl (lv_at hl 0 rfl) ?_
  refine lv_iload_n hx hb dL_law_825 rfl (lv_at hl 3 rfl) ?_
  refine lv_iconst (v := 3) hx hb dL_law_826 (by decide) ?_
  refine lv_iadd hx hb dL_law_827 ?_
  rw [show nI i + 3 = nI (i + 3) from nI_add i 3]
  refine va_sld hx hb hX hbl hbA hS (vp_in_nI (by omega) (by omega)) dL_law_828 ?_
  rw [nI_clamp (by omega)]
  refine k_VWi ⟨hx, hb, hml, hown, hB⟩ (c_X4_year l E (aYn n) (aOn n) Y o (xs (i + 1)) (xs (i + 2)) (xs (i + 3)) (r, Y', o') e1) (clL_125 hB rfl rfl ⟨Nat.le_of_ble_eq_true rfl, Nat.le_of_ble_eq_true rfl⟩) hK hc (rvO0 hK hc) rfl hl.1 rfl (Nat.le_of_ble_eq_true rfl) dL_law_829 hcs hS AC_n (fun H1 L1 hc hz1 hk1 hS => ?_)
  replace hm := MW_kept hm hk1 hlo
  refine lv_aload_n hx hb dL_law_832 rfl (lv_at hl 2 rfl) ?_
  refine lv_aload_n hx hb dL_law_833 rfl (lv_at hl 0 rfl) ?_
  refine lv_iload_n hx hb dL_law_834 rfl (lv_at hl 3 rfl) ?_
  refine lv_iconst (v := 1) hx hb dL_law_835 (by decide) ?_
  refine lv_iadd hx hb dL_law_836 ?_
  rw [show nI i + 1 = nI (i + 1) from nI_add i 1]
  refine va_sld hx hb hX hbl hbA hS (vp_in_nI (by omega) (by omega)) dL_law_837 ?_
  rw [nI_clamp (by omega)]
  refine lv_aload_n hx hb dL_law_838 rfl (lv_at hl 0 rfl) ?_
  refine lv_iload_n hx hb dL_law_839 rfl (lv_at hl 3 rfl) ?_
  refine lv_iconst (v := 2) hx hb dL_law_840 (by decide) ?_
  refine lv_iadd hx hb dL_law_841 ?_
  rw [show nI i + 2 = nI (i + 2) from nI_add i 2]
  refine va_sld hx hb hX hbl hbA hS (vp_in_nI (by omega) (by omega)) dL_law_842 ?_
  rw [nI_clamp (by omega)]
  refine lv_aload_n hx hb dL_law_843 rfl (lv_at hl 0 rfl) ?_
  refine lv_iload_n hx hb dL_law_844 rfl (lv_at hl 3 rfl) ?_
  refine lv_iconst (v := 3) hx hb dL_law_845 (by decide) ?_
  refine lv_iadd hx hb dL_law_846 ?_
  rw [show nI i + 3 = nI (i + 3) from nI_add i 3]
  refine va_sld hx hb hX hbl hbA hS (vp_in_nI (by omega) (by omega)) dL_law_847 ?_
  rw [nI_clamp (by omega)]
  refine k_VWi ⟨hx, hb, hml, hown, hB⟩ (c_X5_year l E (aMn n2) S (xs (i + 1)) (xs (i + 2)) (xs (i + 3)) (r, S') e2) (clL_128 hB rfl rfl ⟨Nat.le_of_ble_eq_true rfl, Nat.le_of_ble_eq_true rfl⟩) hK hm (rvM hK hm) rfl hl.1 rfl (Nat.le_of_ble_eq_true rfl) dL_law_848 hcs hS (AM_n hnn) (fun H2 L2 hm hz2 hk2 hS => ?_)
  replace hc := CW_kept hc hk2 hlo
  refine lv_icmp_eq (tgt := 905) hx hb dL_law_851 (by decide) (fun g => ?_) (fun g => absurd rfl g)
  exact kk _ _ Y' o' S' hv' hc hm hS
set_option maxHeartbeats 4000000 in
set_option maxRecDepth 100000 in
theorem law_keep (C : LC p s m c b L n n2 xs E cells slots) (hi : i + 4 ≤ L) (hl : lv_has ls 4 [(0, .ref b), (1, .ref (aOn n 0)), (2, .ref (aMn n2 0)), (3, .int (nI i))]) (hv : Inv Y o S) (hc : CW E (aYn n) (aOn n) Y o H) (hm : MW E (aMn n2) S H) (hS : va_S (AN n) s.heap H locs)
    (kk : ∀ (H1 : Heap) (L1 : List Loc) (Y1 : YS) (o1 S1 : OS), Inv Y1 o1 S1 → CW E (aYn n) (aOn n) Y1 o1 H1 → MW E (aMn n2) S1 H1 → va_S (AN n) s.heap H1 L1 → W p l e room_1 s m #[Value.ref b] below meth c H1 L1 cells slots Q (F0 m 905 ls [])) : W p l e room_1 s m #[Value.ref b] below meth c H locs cells slots Q (F0 m 856 ls []) := by
  obtain ⟨hx, hb, hml, hown, hB, hK, hX, hbl, hn, hlo, hnn, hL, hcs⟩ := C
  have hbA : ¬ AN n b := by show ¬ n ≤ b; omega
  obtain ⟨r, Y', o', S', e1, e2, hv'⟩ := op_keep hv
  refine lv_aload_n hx hb dL_law_856 rfl (lv_at hl 1 rfl) ?_
  refine k_VWi ⟨hx, hb, hml, hown, hB⟩ (c_X4_keep l E (aYn n) (aOn n) Y o (r, Y', o') e1) (clL_129 hB rfl rfl ⟨Nat.le_of_ble_eq_true rfl, Nat.le_of_ble_eq_true rfl⟩) hK hc (rvO0 hK hc) rfl hl.1 rfl (Nat.le_of_ble_eq_true rfl) dL_law_857 hcs hS AC_n (fun H1 L1 hc hz1 hk1 hS => ?_)
  replace hm := MW_kept hm hk1 hlo
  refine lv_aload_n hx hb dL_law_860 rfl (lv_at hl 2 rfl) ?_
  refine k_VWi ⟨hx, hb, hml, hown, hB⟩ (c_X5_keep l E (aMn n2) S (r, S') e2) (clL_132 hB rfl rfl ⟨Nat.le_of_ble_eq_true rfl, Nat.le_of_ble_eq_true rfl⟩) hK hm (rvM hK hm) rfl hl.1 rfl (Nat.le_of_ble_eq_true rfl) dL_law_861 hcs hS (AM_n hnn) (fun H2 L2 hm hz2 hk2 hS => ?_)
  replace hc := CW_kept hc hk2 hlo
  refine lv_icmp_eq (tgt := 905) hx hb dL_law_864 (by decide) (fun g => ?_) (fun g => absurd rfl g)
  exact kk _ _ Y' o' S' hv' hc hm hS
set_option maxHeartbeats 4000000 in
set_option maxRecDepth 100000 in
theorem law_back (C : LC p s m c b L n n2 xs E cells slots) (hi : i + 4 ≤ L) (hl : lv_has ls 4 [(0, .ref b), (1, .ref (aOn n 0)), (2, .ref (aMn n2 0)), (3, .int (nI i))]) (hv : Inv Y o S) (hc : CW E (aYn n) (aOn n) Y o H) (hm : MW E (aMn n2) S H) (hS : va_S (AN n) s.heap H locs)
    (kk : ∀ (H1 : Heap) (L1 : List Loc) (Y1 : YS) (o1 S1 : OS), Inv Y1 o1 S1 → CW E (aYn n) (aOn n) Y1 o1 H1 → MW E (aMn n2) S1 H1 → va_S (AN n) s.heap H1 L1 → W p l e room_1 s m #[Value.ref b] below meth c H1 L1 cells slots Q (F0 m 905 ls [])) : W p l e room_1 s m #[Value.ref b] below meth c H locs cells slots Q (F0 m 869 ls []) := by
  obtain ⟨hx, hb, hml, hown, hB, hK, hX, hbl, hn, hlo, hnn, hL, hcs⟩ := C
  have hbA : ¬ AN n b := by show ¬ n ≤ b; omega
  obtain ⟨r, Y', o', S', e1, e2, hv'⟩ := op_back hv
  refine lv_aload_n hx hb dL_law_869 rfl (lv_at hl 1 rfl) ?_
  refine k_VWi ⟨hx, hb, hml, hown, hB⟩ (c_X4_back l E (aYn n) (aOn n) Y o (r, Y', o') e1) (clL_133 hB rfl rfl ⟨Nat.le_of_ble_eq_true rfl, Nat.le_of_ble_eq_true rfl⟩) hK hc (rvO0 hK hc) rfl hl.1 rfl (Nat.le_of_ble_eq_true rfl) dL_law_870 hcs hS AC_n (fun H1 L1 hc hz1 hk1 hS => ?_)
  replace hm := MW_kept hm hk1 hlo
  refine lv_aload_n hx hb dL_law_873 rfl (lv_at hl 2 rfl) ?_
  refine k_VWi ⟨hx, hb, hml, hown, hB⟩ (c_X5_back l E (aMn n2) S (r, S') e2) (clL_136 hB rfl rfl ⟨Nat.le_of_ble_eq_true rfl, Nat.le_of_ble_eq_true rfl⟩) hK hm (rvM hK hm) rfl hl.1 rfl (Nat.le_of_ble_eq_true rfl) dL_law_874 hcs hS (AM_n hnn) (fun H2 L2 hm hz2 hk2 hS => ?_)
  replace hc := CW_kept hc hk2 hlo
  refine lv_icmp_eq (tgt := 905) hx hb dL_law_877 (by decide) (fun g => ?_) (fun g => absurd rfl g)
  exact kk _ _ Y' o' S' hv' hc hm hS
set_option maxHeartbeats 4000000 in
set_option maxRecDepth 100000 in
theorem law_count (C : LC p s m c b L n n2 xs E cells slots) (hi : i + 4 ≤ L) (hl : lv_has ls 4 [(0, .ref b), (1, .ref (aOn n 0)), (2, .ref (aMn n2 0)), (3, .int (nI i))]) (hv : Inv Y o S) (hc : CW E (aYn n) (aOn n) Y o H) (hm : MW E (aMn n2) S H) (hS : va_S (AN n) s.heap H locs)
    (kk : ∀ (H1 : Heap) (L1 : List Loc) (Y1 : YS) (o1 S1 : OS), Inv Y1 o1 S1 → CW E (aYn n) (aOn n) Y1 o1 H1 → MW E (aMn n2) S1 H1 → va_S (AN n) s.heap H1 L1 → W p l e room_1 s m #[Value.ref b] below meth c H1 L1 cells slots Q (F0 m 905 ls [])) : W p l e room_1 s m #[Value.ref b] below meth c H locs cells slots Q (F0 m 882 ls []) := by
  obtain ⟨hx, hb, hml, hown, hB, hK, hX, hbl, hn, hlo, hnn, hL, hcs⟩ := C
  have hbA : ¬ AN n b := by show ¬ n ≤ b; omega
  obtain ⟨r, e1, e2⟩ := op_count hv (xs (i + 1))
  refine lv_aload_n hx hb dL_law_882 rfl (lv_at hl 1 rfl) ?_
  refine lv_aload_n hx hb dL_law_883 rfl (lv_at hl 0 rfl) ?_
  refine lv_iload_n hx hb dL_law_884 rfl (lv_at hl 3 rfl) ?_
  refine lv_iconst (v := 1) hx hb dL_law_885 (by decide) ?_
  refine lv_iadd hx hb dL_law_886 ?_
  rw [show nI i + 1 = nI (i + 1) from nI_add i 1]
  refine va_sld hx hb hX hbl hbA hS (vp_in_nI (by omega) (by omega)) dL_law_887 ?_
  rw [nI_clamp (by omega)]
  refine k_VR ⟨hx, hb, hml, hown, hB⟩ (c_X4_count l E (aYn n) (aOn n) Y o (xs (i + 1)) r e1) (clL_137 hB rfl rfl ⟨Nat.le_of_ble_eq_true rfl, Nat.le_of_ble_eq_true rfl⟩) hK hc (rvO0 hK hc) rfl hl.1 rfl (Nat.le_of_ble_eq_true rfl) dL_law_888 hcs ?_
  refine lv_aload_n hx hb dL_law_891 rfl (lv_at hl 2 rfl) ?_
  refine lv_aload_n hx hb dL_law_892 rfl (lv_at hl 0 rfl) ?_
  refine lv_iload_n hx hb dL_law_893 rfl (lv_at hl 3 rfl) ?_
  refine lv_iconst (v := 1) hx hb dL_law_894 (by decide) ?_
  refine lv_iadd hx hb dL_law_895 ?_
  rw [show nI i + 1 = nI (i + 1) from nI_add i 1]
  refine va_sld hx hb hX hbl hbA hS (vp_in_nI (by omega) (by omega)) dL_law_896 ?_
  rw [nI_clamp (by omega)]
  refine k_VR ⟨hx, hb, hml, hown, hB⟩ (c_X5_count l E (aMn n2) S (xs (i + 1)) r e2) (clL_140 hB rfl rfl ⟨Nat.le_of_ble_eq_true rfl, Nat.le_of_ble_eq_true rfl⟩) hK hm (rvM hK hm) rfl hl.1 rfl (Nat.le_of_ble_eq_true rfl) dL_law_897 hcs ?_
  refine lv_icmp_eq (tgt := 905) hx hb dL_law_900 (by decide) (fun g => ?_) (fun g => absurd rfl g)
  exact kk H locs Y o S hv hc hm hS
end LAW
