/-! THE CLAIM OUT OF ONE WALK OF THE LAW'S BODY. Your part is whole_start (and what it stands on); all else here is the same for every law, but numbers. -/
def R_law : String := "ShownLibraryLaw"
def lw_P (b : Addr) (xs : List Int32) (args : Array Value) (s : State) : Prop := args = #[.ref b] ∧ s.IntsAt b xs ∧ xs.length ≤ 3072 ∧ (Jvm.Cond.and given_1 narrow_1).before args s = true
def lw_Q (_ : Array Value) (s : State) (o : Outcome) (t : State) : Prop := o = .returned (some (.int 1)) ∧ Framed s o t [] 600000 7302249
def lw_Z (below : List Frame) (a : Array Value) (s : State) : State → Prop := fun t => ∃ o, t.status = .running ∧ Ended t below o ∧ lw_Q a s o t
/-- the law's own end, with 1 on the stack, nothing written that was there before, its room as the claim has it -/
theorem lw_ret {p : Program} {l : Launch} {e : Env} {s : State} {m : MethodId} {below : List Frame} {meth : Method} {c : Code} {b : Nat} (hx : p.tables.exec = Jvm.exec) (hb : c.code = code) (hr : meth.sig.returnType = ret) (hlocks : meth.locks = false) {pc : Nat} {H : Heap} {ls : Array Slot} (hdg : decode code pc = .ok (.ireturn, 1)) : W p l e room_1 s m #[Value.ref b] below meth c H [] 600000 7302249 (lw_Z below #[Value.ref b] s) (F0 m pc ls [.int 1]) := by
  intro T hT X
  obtain ⟨fs, hret, hrun, hended, hW, hframe⟩ := X.leave (v := some (.int 1)) (hlocks := hlocks) (fun h => by rw [hr] at h; cases h)
  have hmeth' : T.vm.method? m = some meth := X.method'
  refine ⟨T.setFrames fs, ?_, .returned (some (.int 1)), hrun, hended, rfl, ⟨_, rfl⟩, hW, hframe⟩
  jvm_step X.here [X.here.top, hx, hb, hdg, hmeth', hr, ret, narrow_b1]
  (try refine ⟨rfl, ?_⟩); (try refine ⟨rfl, ?_⟩)
  first | (intro acts; rw [hret _ acts rfl rfl rfl]) | rw [hret _ _ rfl rfl rfl]
  exact Steps.refl _
/-- what holds at the law's entry: the machine, the code, the tables' words (any of lw_tbl by 'hts w (by decide +kernel)'), the script of L ints xs at the cell b, what the Statement gives of the start (any of its parts by flat_of_before) -/
def lw_At (p : Program) (s : State) (m : MethodId) (meth : Method) (c : Code) (b L : Nat) (xs : Nat → Int32) : Prop :=
  p.tables.exec = Jvm.exec ∧ c.code = code ∧ meth.sig.returnType = ret ∧ c.maxLocals = 4 ∧ s.vm.findClass R_law = some m.cls ∧ (∀ w ∈ lw_tbl, w.before #[Value.ref b] s = true) ∧ va_X b L xs s s.heap ∧ b < s.heap.size ∧ meth.locks = false ∧ (Jvm.Cond.and given_1 narrow_1).before #[Value.ref b] s = true
set_option maxRecDepth 100000 in
theorem wl_592 : Cond.methodLink R_law 15 yX11_feed ∈ gtb := mg 592 rfl rfl
set_option maxRecDepth 100000 in
theorem wl_593 : Cond.instanceMethod yX11_feed ∈ gtb := mg 593 rfl rfl
set_option maxRecDepth 100000 in
theorem wl_594 : Cond.selects RX11 yX11_feed yX11_feed ∈ gtb := mg 594 rfl rfl
set_option maxRecDepth 100000 in
theorem wl_595 : Cond.code yX11_feed cX11_feed 3 (some .int) ∈ gtb := mg 595 rfl rfl
set_option maxRecDepth 100000 in
theorem wl_600 : Cond.methodLink R_law 20 yX11_end ∈ gtb := mg 600 rfl rfl
set_option maxRecDepth 100000 in
theorem wl_601 : Cond.instanceMethod yX11_end ∈ gtb := mg 601 rfl rfl
set_option maxRecDepth 100000 in
theorem wl_602 : Cond.selects RX11 yX11_end yX11_end ∈ gtb := mg 602 rfl rfl
set_option maxRecDepth 100000 in
theorem wl_603 : Cond.code yX11_end cX11_end 3 (some .int) ∈ gtb := mg 603 rfl rfl
set_option maxRecDepth 100000 in
theorem wl_604 : Cond.methodLink R_law 25 yX11_text ∈ gtb := mg 604 rfl rfl
set_option maxRecDepth 100000 in
theorem wl_605 : Cond.instanceMethod yX11_text ∈ gtb := mg 605 rfl rfl
set_option maxRecDepth 100000 in
theorem wl_606 : Cond.selects RX11 yX11_text yX11_text ∈ gtb := mg 606 rfl rfl
set_option maxRecDepth 100000 in
theorem wl_607 : Cond.code yX11_text cX11_text 1 (some .int) ∈ gtb := mg 607 rfl rfl
set_option maxRecDepth 100000 in
theorem wl_719 : Cond.methodLink R_law 30 yX11_fault ∈ gtb := mg 719 rfl rfl
set_option maxRecDepth 100000 in
theorem wl_720 : Cond.instanceMethod yX11_fault ∈ gtb := mg 720 rfl rfl
set_option maxRecDepth 100000 in
theorem wl_721 : Cond.selects RX11 yX11_fault yX11_fault ∈ gtb := mg 721 rfl rfl
set_option maxRecDepth 100000 in
theorem wl_722 : Cond.code yX11_fault cX11_fault 1 (some .int) ∈ gtb := mg 722 rfl rfl
set_option maxRecDepth 100000 in
theorem wl_723 : Cond.methodLink R_law 34 yX11_hand ∈ gtb := mg 723 rfl rfl
set_option maxRecDepth 100000 in
theorem wl_724 : Cond.instanceMethod yX11_hand ∈ gtb := mg 724 rfl rfl
set_option maxRecDepth 100000 in
theorem wl_725 : Cond.selects RX11 yX11_hand yX11_hand ∈ gtb := mg 725 rfl rfl
set_option maxRecDepth 100000 in
theorem wl_726 : Cond.code yX11_hand cX11_hand 3 (some .int) ∈ gtb := mg 726 rfl rfl
set_option maxRecDepth 100000 in
theorem wl_727 : Cond.methodLink R_law 38 yX11_day ∈ gtb := mg 727 rfl rfl
set_option maxRecDepth 100000 in
theorem wl_728 : Cond.instanceMethod yX11_day ∈ gtb := mg 728 rfl rfl
set_option maxRecDepth 100000 in
theorem wl_729 : Cond.selects RX11 yX11_day yX11_day ∈ gtb := mg 729 rfl rfl
set_option maxRecDepth 100000 in
theorem wl_730 : Cond.code yX11_day cX11_day 3 (some .int) ∈ gtb := mg 730 rfl rfl
set_option maxRecDepth 100000 in
theorem wl_731 : Cond.methodLink R_law 42 yX11_of ∈ gtb := mg 731 rfl rfl
set_option maxRecDepth 100000 in
theorem wl_732 : Cond.instanceMethod yX11_of ∈ gtb := mg 732 rfl rfl
set_option maxRecDepth 100000 in
theorem wl_733 : Cond.selects RX11 yX11_of yX11_of ∈ gtb := mg 733 rfl rfl
set_option maxRecDepth 100000 in
theorem wl_734 : Cond.code yX11_of cX11_of 4 (some .int) ∈ gtb := mg 734 rfl rfl
set_option maxRecDepth 100000 in
theorem wl_755 : Cond.methodLink R_law 47 yX11_sign ∈ gtb := mg 755 rfl rfl
set_option maxRecDepth 100000 in
theorem wl_756 : Cond.instanceMethod yX11_sign ∈ gtb := mg 756 rfl rfl
set_option maxRecDepth 100000 in
theorem wl_757 : Cond.selects RX11 yX11_sign yX11_sign ∈ gtb := mg 757 rfl rfl
set_option maxRecDepth 100000 in
theorem wl_758 : Cond.code yX11_sign cX11_sign 5 (some .int) ∈ gtb := mg 758 rfl rfl
set_option maxRecDepth 100000 in
theorem wl_760 : Cond.methodLink R_law 52 yX11_word ∈ gtb := mg 760 rfl rfl
set_option maxRecDepth 100000 in
theorem wl_761 : Cond.instanceMethod yX11_word ∈ gtb := mg 761 rfl rfl
set_option maxRecDepth 100000 in
theorem wl_762 : Cond.selects RX11 yX11_word yX11_word ∈ gtb := mg 762 rfl rfl
set_option maxRecDepth 100000 in
theorem wl_763 : Cond.code yX11_word cX11_word 4 (some .int) ∈ gtb := mg 763 rfl rfl
set_option maxRecDepth 100000 in
theorem wl_784 : Cond.methodLink R_law 56 yX11_as ∈ gtb := mg 784 rfl rfl
set_option maxRecDepth 100000 in
theorem wl_785 : Cond.instanceMethod yX11_as ∈ gtb := mg 785 rfl rfl
set_option maxRecDepth 100000 in
theorem wl_786 : Cond.selects RX11 yX11_as yX11_as ∈ gtb := mg 786 rfl rfl
set_option maxRecDepth 100000 in
theorem wl_787 : Cond.code yX11_as cX11_as 3 (some .int) ∈ gtb := mg 787 rfl rfl
set_option maxRecDepth 100000 in
theorem wl_792 : Cond.methodLink R_law 60 yX11_prove ∈ gtb := mg 792 rfl rfl
set_option maxRecDepth 100000 in
theorem wl_793 : Cond.instanceMethod yX11_prove ∈ gtb := mg 793 rfl rfl
set_option maxRecDepth 100000 in
theorem wl_794 : Cond.selects RX11 yX11_prove yX11_prove ∈ gtb := mg 794 rfl rfl
set_option maxRecDepth 100000 in
theorem wl_795 : Cond.code yX11_prove cX11_prove 3 (some .int) ∈ gtb := mg 795 rfl rfl
set_option maxRecDepth 100000 in
theorem wl_810 : Cond.methodLink R_law 64 yX11_step ∈ gtb := mg 810 rfl rfl
set_option maxRecDepth 100000 in
theorem wl_811 : Cond.instanceMethod yX11_step ∈ gtb := mg 811 rfl rfl
set_option maxRecDepth 100000 in
theorem wl_812 : Cond.selects RX11 yX11_step yX11_step ∈ gtb := mg 812 rfl rfl
set_option maxRecDepth 100000 in
theorem wl_813 : Cond.code yX11_step cX11_step 4 (some .int) ∈ gtb := mg 813 rfl rfl
set_option maxRecDepth 100000 in
theorem wl_862 : Cond.methodLink R_law 68 yX11_undo ∈ gtb := mg 862 rfl rfl
set_option maxRecDepth 100000 in
theorem wl_863 : Cond.instanceMethod yX11_undo ∈ gtb := mg 863 rfl rfl
set_option maxRecDepth 100000 in
theorem wl_864 : Cond.selects RX11 yX11_undo yX11_undo ∈ gtb := mg 864 rfl rfl
set_option maxRecDepth 100000 in
theorem wl_865 : Cond.code yX11_undo cX11_undo 1 (some .int) ∈ gtb := mg 865 rfl rfl
set_option maxRecDepth 100000 in
theorem wl_870 : Cond.methodLink R_law 72 yX11_proof ∈ gtb := mg 870 rfl rfl
set_option maxRecDepth 100000 in
theorem wl_871 : Cond.instanceMethod yX11_proof ∈ gtb := mg 871 rfl rfl
set_option maxRecDepth 100000 in
theorem wl_872 : Cond.selects RX11 yX11_proof yX11_proof ∈ gtb := mg 872 rfl rfl
set_option maxRecDepth 100000 in
theorem wl_873 : Cond.code yX11_proof cX11_proof 2 (some .int) ∈ gtb := mg 873 rfl rfl
set_option maxRecDepth 100000 in
theorem wl_884 : Cond.methodLink R_law 76 yX11_show ∈ gtb := mg 884 rfl rfl
set_option maxRecDepth 100000 in
theorem wl_885 : Cond.instanceMethod yX11_show ∈ gtb := mg 885 rfl rfl
set_option maxRecDepth 100000 in
theorem wl_886 : Cond.selects RX11 yX11_show yX11_show ∈ gtb := mg 886 rfl rfl
set_option maxRecDepth 100000 in
theorem wl_887 : Cond.code yX11_show cX11_show 1 (some .int) ∈ gtb := mg 887 rfl rfl
set_option maxRecDepth 100000 in
theorem wl_928 : Cond.methodLink R_law 80 yX11_stepOf ∈ gtb := mg 928 rfl rfl
set_option maxRecDepth 100000 in
theorem wl_929 : Cond.instanceMethod yX11_stepOf ∈ gtb := mg 929 rfl rfl
set_option maxRecDepth 100000 in
theorem wl_930 : Cond.selects RX11 yX11_stepOf yX11_stepOf ∈ gtb := mg 930 rfl rfl
set_option maxRecDepth 100000 in
theorem wl_931 : Cond.code yX11_stepOf cX11_stepOf 5 (some .int) ∈ gtb := mg 931 rfl rfl
set_option maxRecDepth 100000 in
theorem wl_936 : Cond.methodLink R_law 84 yX11_leans ∈ gtb := mg 936 rfl rfl
set_option maxRecDepth 100000 in
theorem wl_937 : Cond.instanceMethod yX11_leans ∈ gtb := mg 937 rfl rfl
set_option maxRecDepth 100000 in
theorem wl_938 : Cond.selects RX11 yX11_leans yX11_leans ∈ gtb := mg 938 rfl rfl
set_option maxRecDepth 100000 in
theorem wl_939 : Cond.code yX11_leans cX11_leans 3 (some .int) ∈ gtb := mg 939 rfl rfl
set_option maxRecDepth 100000 in
theorem wl_944 : Cond.methodLink R_law 88 yX11_change ∈ gtb := mg 944 rfl rfl
set_option maxRecDepth 100000 in
theorem wl_945 : Cond.instanceMethod yX11_change ∈ gtb := mg 945 rfl rfl
set_option maxRecDepth 100000 in
theorem wl_946 : Cond.selects RX11 yX11_change yX11_change ∈ gtb := mg 946 rfl rfl
set_option maxRecDepth 100000 in
theorem wl_947 : Cond.code yX11_change cX11_change 3 (some .int) ∈ gtb := mg 947 rfl rfl
set_option maxRecDepth 100000 in
theorem wl_972 : Cond.methodLink R_law 92 yX11_seek ∈ gtb := mg 972 rfl rfl
set_option maxRecDepth 100000 in
theorem wl_973 : Cond.instanceMethod yX11_seek ∈ gtb := mg 973 rfl rfl
set_option maxRecDepth 100000 in
theorem wl_974 : Cond.selects RX11 yX11_seek yX11_seek ∈ gtb := mg 974 rfl rfl
set_option maxRecDepth 100000 in
theorem wl_975 : Cond.code yX11_seek cX11_seek 6 (some .int) ∈ gtb := mg 975 rfl rfl
set_option maxRecDepth 100000 in
theorem wl_1009 : Cond.methodLink R_law 97 yX11_take ∈ gtb := mg 1009 rfl rfl
set_option maxRecDepth 100000 in
theorem wl_1010 : Cond.instanceMethod yX11_take ∈ gtb := mg 1010 rfl rfl
set_option maxRecDepth 100000 in
theorem wl_1011 : Cond.selects RX11 yX11_take yX11_take ∈ gtb := mg 1011 rfl rfl
set_option maxRecDepth 100000 in
theorem wl_1012 : Cond.code yX11_take cX11_take 5 (some .int) ∈ gtb := mg 1012 rfl rfl
set_option maxRecDepth 100000 in
theorem wl_1019 : Cond.methodLink R_law 101 yX11_holds ∈ gtb := mg 1019 rfl rfl
set_option maxRecDepth 100000 in
theorem wl_1020 : Cond.instanceMethod yX11_holds ∈ gtb := mg 1020 rfl rfl
set_option maxRecDepth 100000 in
theorem wl_1021 : Cond.selects RX11 yX11_holds yX11_holds ∈ gtb := mg 1021 rfl rfl
set_option maxRecDepth 100000 in
theorem wl_1022 : Cond.code yX11_holds cX11_holds 5 (some .int) ∈ gtb := mg 1022 rfl rfl
set_option maxRecDepth 100000 in
theorem wl_1059 : Cond.methodLink R_law 105 yX11_worlds ∈ gtb := mg 1059 rfl rfl
set_option maxRecDepth 100000 in
theorem wl_1060 : Cond.instanceMethod yX11_worlds ∈ gtb := mg 1060 rfl rfl
set_option maxRecDepth 100000 in
theorem wl_1061 : Cond.selects RX11 yX11_worlds yX11_worlds ∈ gtb := mg 1061 rfl rfl
set_option maxRecDepth 100000 in
theorem wl_1062 : Cond.code yX11_worlds cX11_worlds 3 (some .int) ∈ gtb := mg 1062 rfl rfl
set_option maxRecDepth 100000 in
theorem wl_1079 : Cond.methodLink R_law 109 yX11_denied ∈ gtb := mg 1079 rfl rfl
set_option maxRecDepth 100000 in
theorem wl_1080 : Cond.instanceMethod yX11_denied ∈ gtb := mg 1080 rfl rfl
set_option maxRecDepth 100000 in
theorem wl_1081 : Cond.selects RX11 yX11_denied yX11_denied ∈ gtb := mg 1081 rfl rfl
set_option maxRecDepth 100000 in
theorem wl_1082 : Cond.code yX11_denied cX11_denied 4 (some .int) ∈ gtb := mg 1082 rfl rfl
set_option maxRecDepth 100000 in
theorem wl_1083 : Cond.methodLink R_law 113 yX11_like ∈ gtb := mg 1083 rfl rfl
set_option maxRecDepth 100000 in
theorem wl_1084 : Cond.instanceMethod yX11_like ∈ gtb := mg 1084 rfl rfl
set_option maxRecDepth 100000 in
theorem wl_1085 : Cond.selects RX11 yX11_like yX11_like ∈ gtb := mg 1085 rfl rfl
set_option maxRecDepth 100000 in
theorem wl_1086 : Cond.code yX11_like cX11_like 4 (some .int) ∈ gtb := mg 1086 rfl rfl
set_option maxRecDepth 100000 in
theorem wl_1152 : Cond.methodLink R_law 117 yX11_find ∈ gtb := mg 1152 rfl rfl
set_option maxRecDepth 100000 in
theorem wl_1153 : Cond.instanceMethod yX11_find ∈ gtb := mg 1153 rfl rfl
set_option maxRecDepth 100000 in
theorem wl_1154 : Cond.selects RX11 yX11_find yX11_find ∈ gtb := mg 1154 rfl rfl
set_option maxRecDepth 100000 in
theorem wl_1155 : Cond.code yX11_find cX11_find 5 (some .int) ∈ gtb := mg 1155 rfl rfl
set_option maxRecDepth 100000 in
theorem wl_1166 : Cond.methodLink R_law 121 yX11_teach ∈ gtb := mg 1166 rfl rfl
set_option maxRecDepth 100000 in
theorem wl_1167 : Cond.instanceMethod yX11_teach ∈ gtb := mg 1167 rfl rfl
set_option maxRecDepth 100000 in
theorem wl_1168 : Cond.selects RX11 yX11_teach yX11_teach ∈ gtb := mg 1168 rfl rfl
set_option maxRecDepth 100000 in
theorem wl_1169 : Cond.code yX11_teach cX11_teach 7 (some .int) ∈ gtb := mg 1169 rfl rfl
set_option maxRecDepth 100000 in
theorem wl_1178 : Cond.methodLink R_law 125 yX11_sheet ∈ gtb := mg 1178 rfl rfl
set_option maxRecDepth 100000 in
theorem wl_1179 : Cond.instanceMethod yX11_sheet ∈ gtb := mg 1179 rfl rfl
set_option maxRecDepth 100000 in
theorem wl_1180 : Cond.selects RX11 yX11_sheet yX11_sheet ∈ gtb := mg 1180 rfl rfl
set_option maxRecDepth 100000 in
theorem wl_1181 : Cond.code yX11_sheet cX11_sheet 4 (some .int) ∈ gtb := mg 1181 rfl rfl
set_option maxRecDepth 100000 in
theorem wl_1195 : Cond.methodLink R_law 129 yX11_lay ∈ gtb := mg 1195 rfl rfl
set_option maxRecDepth 100000 in
theorem wl_1196 : Cond.instanceMethod yX11_lay ∈ gtb := mg 1196 rfl rfl
set_option maxRecDepth 100000 in
theorem wl_1197 : Cond.selects RX11 yX11_lay yX11_lay ∈ gtb := mg 1197 rfl rfl
set_option maxRecDepth 100000 in
theorem wl_1198 : Cond.code yX11_lay cX11_lay 4 (some .int) ∈ gtb := mg 1198 rfl rfl
set_option maxRecDepth 100000 in
theorem wl_1207 : Cond.methodLink R_law 133 yX11_read ∈ gtb := mg 1207 rfl rfl
set_option maxRecDepth 100000 in
theorem wl_1208 : Cond.instanceMethod yX11_read ∈ gtb := mg 1208 rfl rfl
set_option maxRecDepth 100000 in
theorem wl_1209 : Cond.selects RX11 yX11_read yX11_read ∈ gtb := mg 1209 rfl rfl
set_option maxRecDepth 100000 in
theorem wl_1210 : Cond.code yX11_read cX11_read 9 (some .int) ∈ gtb := mg 1210 rfl rfl
set_option maxRecDepth 100000 in
theorem wl_1227 : Cond.methodLink R_law 138 yX11_count ∈ gtb := mg 1227 rfl rfl
set_option maxRecDepth 100000 in
theorem wl_1228 : Cond.instanceMethod yX11_count ∈ gtb := mg 1228 rfl rfl
set_option maxRecDepth 100000 in
theorem wl_1229 : Cond.selects RX11 yX11_count yX11_count ∈ gtb := mg 1229 rfl rfl
set_option maxRecDepth 100000 in
theorem wl_1230 : Cond.code yX11_count cX11_count 2 (some .int) ∈ gtb := mg 1230 rfl rfl
set_option maxRecDepth 100000 in
theorem wl_1489 : Cond.methodLink R_law 19 yX12_feed ∈ gtb := mg 1489 rfl rfl
set_option maxRecDepth 100000 in
theorem wl_1490 : Cond.instanceMethod yX12_feed ∈ gtb := mg 1490 rfl rfl
set_option maxRecDepth 100000 in
theorem wl_1491 : Cond.selects RX12 yX12_feed yX12_feed ∈ gtb := mg 1491 rfl rfl
set_option maxRecDepth 100000 in
theorem wl_1492 : Cond.code yX12_feed cX12_feed 4 (some .int) ∈ gtb := mg 1492 rfl rfl
set_option maxRecDepth 100000 in
theorem wl_1494 : Cond.methodLink R_law 24 yX12_end ∈ gtb := mg 1494 rfl rfl
set_option maxRecDepth 100000 in
theorem wl_1495 : Cond.instanceMethod yX12_end ∈ gtb := mg 1495 rfl rfl
set_option maxRecDepth 100000 in
theorem wl_1496 : Cond.selects RX12 yX12_end yX12_end ∈ gtb := mg 1496 rfl rfl
set_option maxRecDepth 100000 in
theorem wl_1497 : Cond.code yX12_end cX12_end 3 (some .int) ∈ gtb := mg 1497 rfl rfl
set_option maxRecDepth 100000 in
theorem wl_1501 : Cond.methodLink R_law 29 yX12_text ∈ gtb := mg 1501 rfl rfl
set_option maxRecDepth 100000 in
theorem wl_1502 : Cond.instanceMethod yX12_text ∈ gtb := mg 1502 rfl rfl
set_option maxRecDepth 100000 in
theorem wl_1503 : Cond.selects RX12 yX12_text yX12_text ∈ gtb := mg 1503 rfl rfl
set_option maxRecDepth 100000 in
theorem wl_1504 : Cond.code yX12_text cX12_text 3 (some .int) ∈ gtb := mg 1504 rfl rfl
set_option maxRecDepth 100000 in
theorem wl_1563 : Cond.methodLink R_law 33 yX12_fault ∈ gtb := mg 1563 rfl rfl
set_option maxRecDepth 100000 in
theorem wl_1564 : Cond.instanceMethod yX12_fault ∈ gtb := mg 1564 rfl rfl
set_option maxRecDepth 100000 in
theorem wl_1565 : Cond.selects RX12 yX12_fault yX12_fault ∈ gtb := mg 1565 rfl rfl
set_option maxRecDepth 100000 in
theorem wl_1566 : Cond.code yX12_fault cX12_fault 1 (some .int) ∈ gtb := mg 1566 rfl rfl
set_option maxRecDepth 100000 in
theorem wl_1567 : Cond.methodLink R_law 37 yX12_hand ∈ gtb := mg 1567 rfl rfl
set_option maxRecDepth 100000 in
theorem wl_1568 : Cond.instanceMethod yX12_hand ∈ gtb := mg 1568 rfl rfl
set_option maxRecDepth 100000 in
theorem wl_1569 : Cond.selects RX12 yX12_hand yX12_hand ∈ gtb := mg 1569 rfl rfl
set_option maxRecDepth 100000 in
theorem wl_1570 : Cond.code yX12_hand cX12_hand 3 (some .int) ∈ gtb := mg 1570 rfl rfl
set_option maxRecDepth 100000 in
theorem wl_1572 : Cond.methodLink R_law 41 yX12_day ∈ gtb := mg 1572 rfl rfl
set_option maxRecDepth 100000 in
theorem wl_1573 : Cond.instanceMethod yX12_day ∈ gtb := mg 1573 rfl rfl
set_option maxRecDepth 100000 in
theorem wl_1574 : Cond.selects RX12 yX12_day yX12_day ∈ gtb := mg 1574 rfl rfl
set_option maxRecDepth 100000 in
theorem wl_1575 : Cond.code yX12_day cX12_day 3 (some .int) ∈ gtb := mg 1575 rfl rfl
set_option maxRecDepth 100000 in
theorem wl_1577 : Cond.methodLink R_law 46 yX12_of ∈ gtb := mg 1577 rfl rfl
set_option maxRecDepth 100000 in
theorem wl_1578 : Cond.instanceMethod yX12_of ∈ gtb := mg 1578 rfl rfl
set_option maxRecDepth 100000 in
theorem wl_1579 : Cond.selects RX12 yX12_of yX12_of ∈ gtb := mg 1579 rfl rfl
set_option maxRecDepth 100000 in
theorem wl_1580 : Cond.code yX12_of cX12_of 3 (some .int) ∈ gtb := mg 1580 rfl rfl
set_option maxRecDepth 100000 in
theorem wl_1601 : Cond.methodLink R_law 51 yX12_sign ∈ gtb := mg 1601 rfl rfl
set_option maxRecDepth 100000 in
theorem wl_1602 : Cond.instanceMethod yX12_sign ∈ gtb := mg 1602 rfl rfl
set_option maxRecDepth 100000 in
theorem wl_1603 : Cond.selects RX12 yX12_sign yX12_sign ∈ gtb := mg 1603 rfl rfl
set_option maxRecDepth 100000 in
theorem wl_1604 : Cond.code yX12_sign cX12_sign 4 (some .int) ∈ gtb := mg 1604 rfl rfl
set_option maxRecDepth 100000 in
theorem wl_1605 : Cond.methodLink R_law 55 yX12_word ∈ gtb := mg 1605 rfl rfl
set_option maxRecDepth 100000 in
theorem wl_1606 : Cond.instanceMethod yX12_word ∈ gtb := mg 1606 rfl rfl
set_option maxRecDepth 100000 in
theorem wl_1607 : Cond.selects RX12 yX12_word yX12_word ∈ gtb := mg 1607 rfl rfl
set_option maxRecDepth 100000 in
theorem wl_1608 : Cond.code yX12_word cX12_word 5 (some .int) ∈ gtb := mg 1608 rfl rfl
set_option maxRecDepth 100000 in
theorem wl_1654 : Cond.methodLink R_law 59 yX12_as ∈ gtb := mg 1654 rfl rfl
set_option maxRecDepth 100000 in
theorem wl_1655 : Cond.instanceMethod yX12_as ∈ gtb := mg 1655 rfl rfl
set_option maxRecDepth 100000 in
theorem wl_1656 : Cond.selects RX12 yX12_as yX12_as ∈ gtb := mg 1656 rfl rfl
set_option maxRecDepth 100000 in
theorem wl_1657 : Cond.code yX12_as cX12_as 4 (some .int) ∈ gtb := mg 1657 rfl rfl
set_option maxRecDepth 100000 in
theorem wl_1658 : Cond.methodLink R_law 87 yX12_leans ∈ gtb := mg 1658 rfl rfl
set_option maxRecDepth 100000 in
theorem wl_1659 : Cond.instanceMethod yX12_leans ∈ gtb := mg 1659 rfl rfl
set_option maxRecDepth 100000 in
theorem wl_1660 : Cond.selects RX12 yX12_leans yX12_leans ∈ gtb := mg 1660 rfl rfl
set_option maxRecDepth 100000 in
theorem wl_1661 : Cond.code yX12_leans cX12_leans 5 (some .int) ∈ gtb := mg 1661 rfl rfl
set_option maxRecDepth 100000 in
theorem wl_1662 : Cond.methodLink R_law 63 yX12_prove ∈ gtb := mg 1662 rfl rfl
set_option maxRecDepth 100000 in
theorem wl_1663 : Cond.instanceMethod yX12_prove ∈ gtb := mg 1663 rfl rfl
set_option maxRecDepth 100000 in
theorem wl_1664 : Cond.selects RX12 yX12_prove yX12_prove ∈ gtb := mg 1664 rfl rfl
set_option maxRecDepth 100000 in
theorem wl_1665 : Cond.code yX12_prove cX12_prove 2 (some .int) ∈ gtb := mg 1665 rfl rfl
set_option maxRecDepth 100000 in
theorem wl_1670 : Cond.methodLink R_law 67 yX12_step ∈ gtb := mg 1670 rfl rfl
set_option maxRecDepth 100000 in
theorem wl_1671 : Cond.instanceMethod yX12_step ∈ gtb := mg 1671 rfl rfl
set_option maxRecDepth 100000 in
theorem wl_1672 : Cond.selects RX12 yX12_step yX12_step ∈ gtb := mg 1672 rfl rfl
set_option maxRecDepth 100000 in
theorem wl_1673 : Cond.code yX12_step cX12_step 5 (some .int) ∈ gtb := mg 1673 rfl rfl
set_option maxRecDepth 100000 in
theorem wl_1679 : Cond.methodLink R_law 71 yX12_undo ∈ gtb := mg 1679 rfl rfl
set_option maxRecDepth 100000 in
theorem wl_1680 : Cond.instanceMethod yX12_undo ∈ gtb := mg 1680 rfl rfl
set_option maxRecDepth 100000 in
theorem wl_1681 : Cond.selects RX12 yX12_undo yX12_undo ∈ gtb := mg 1681 rfl rfl
set_option maxRecDepth 100000 in
theorem wl_1682 : Cond.code yX12_undo cX12_undo 1 (some .int) ∈ gtb := mg 1682 rfl rfl
set_option maxRecDepth 100000 in
theorem wl_1683 : Cond.methodLink R_law 75 yX12_proof ∈ gtb := mg 1683 rfl rfl
set_option maxRecDepth 100000 in
theorem wl_1684 : Cond.instanceMethod yX12_proof ∈ gtb := mg 1684 rfl rfl
set_option maxRecDepth 100000 in
theorem wl_1685 : Cond.selects RX12 yX12_proof yX12_proof ∈ gtb := mg 1685 rfl rfl
set_option maxRecDepth 100000 in
theorem wl_1686 : Cond.code yX12_proof cX12_proof 2 (some .int) ∈ gtb := mg 1686 rfl rfl
set_option maxRecDepth 100000 in
theorem wl_1691 : Cond.methodLink R_law 79 yX12_show ∈ gtb := mg 1691 rfl rfl
set_option maxRecDepth 100000 in
theorem wl_1692 : Cond.instanceMethod yX12_show ∈ gtb := mg 1692 rfl rfl
set_option maxRecDepth 100000 in
theorem wl_1693 : Cond.selects RX12 yX12_show yX12_show ∈ gtb := mg 1693 rfl rfl
set_option maxRecDepth 100000 in
theorem wl_1694 : Cond.code yX12_show cX12_show 1 (some .int) ∈ gtb := mg 1694 rfl rfl
set_option maxRecDepth 100000 in
theorem wl_1703 : Cond.methodLink R_law 83 yX12_stepOf ∈ gtb := mg 1703 rfl rfl
set_option maxRecDepth 100000 in
theorem wl_1704 : Cond.instanceMethod yX12_stepOf ∈ gtb := mg 1704 rfl rfl
set_option maxRecDepth 100000 in
theorem wl_1705 : Cond.selects RX12 yX12_stepOf yX12_stepOf ∈ gtb := mg 1705 rfl rfl
set_option maxRecDepth 100000 in
theorem wl_1706 : Cond.code yX12_stepOf cX12_stepOf 5 (some .int) ∈ gtb := mg 1706 rfl rfl
set_option maxRecDepth 100000 in
theorem wl_1707 : Cond.methodLink R_law 91 yX12_change ∈ gtb := mg 1707 rfl rfl
set_option maxRecDepth 100000 in
theorem wl_1708 : Cond.instanceMethod yX12_change ∈ gtb := mg 1708 rfl rfl
set_option maxRecDepth 100000 in
theorem wl_1709 : Cond.selects RX12 yX12_change yX12_change ∈ gtb := mg 1709 rfl rfl
set_option maxRecDepth 100000 in
theorem wl_1710 : Cond.code yX12_change cX12_change 6 (some .int) ∈ gtb := mg 1710 rfl rfl
set_option maxRecDepth 100000 in
theorem wl_1715 : Cond.methodLink R_law 96 yX12_seek ∈ gtb := mg 1715 rfl rfl
set_option maxRecDepth 100000 in
theorem wl_1716 : Cond.instanceMethod yX12_seek ∈ gtb := mg 1716 rfl rfl
set_option maxRecDepth 100000 in
theorem wl_1717 : Cond.selects RX12 yX12_seek yX12_seek ∈ gtb := mg 1717 rfl rfl
set_option maxRecDepth 100000 in
theorem wl_1718 : Cond.code yX12_seek cX12_seek 5 (some .int) ∈ gtb := mg 1718 rfl rfl
set_option maxRecDepth 100000 in
theorem wl_1744 : Cond.methodLink R_law 100 yX12_take ∈ gtb := mg 1744 rfl rfl
set_option maxRecDepth 100000 in
theorem wl_1745 : Cond.instanceMethod yX12_take ∈ gtb := mg 1745 rfl rfl
set_option maxRecDepth 100000 in
theorem wl_1746 : Cond.selects RX12 yX12_take yX12_take ∈ gtb := mg 1746 rfl rfl
set_option maxRecDepth 100000 in
theorem wl_1747 : Cond.code yX12_take cX12_take 7 (some .int) ∈ gtb := mg 1747 rfl rfl
set_option maxRecDepth 100000 in
theorem wl_1748 : Cond.methodLink R_law 104 yX12_holds ∈ gtb := mg 1748 rfl rfl
set_option maxRecDepth 100000 in
theorem wl_1749 : Cond.instanceMethod yX12_holds ∈ gtb := mg 1749 rfl rfl
set_option maxRecDepth 100000 in
theorem wl_1750 : Cond.selects RX12 yX12_holds yX12_holds ∈ gtb := mg 1750 rfl rfl
set_option maxRecDepth 100000 in
theorem wl_1751 : Cond.code yX12_holds cX12_holds 4 (some .int) ∈ gtb := mg 1751 rfl rfl
set_option maxRecDepth 100000 in
theorem wl_1770 : Cond.methodLink R_law 108 yX12_worlds ∈ gtb := mg 1770 rfl rfl
set_option maxRecDepth 100000 in
theorem wl_1771 : Cond.instanceMethod yX12_worlds ∈ gtb := mg 1771 rfl rfl
set_option maxRecDepth 100000 in
theorem wl_1772 : Cond.selects RX12 yX12_worlds yX12_worlds ∈ gtb := mg 1772 rfl rfl
set_option maxRecDepth 100000 in
theorem wl_1773 : Cond.code yX12_worlds cX12_worlds 6 (some .int) ∈ gtb := mg 1773 rfl rfl
set_option maxRecDepth 100000 in
theorem wl_1786 : Cond.methodLink R_law 112 yX12_denied ∈ gtb := mg 1786 rfl rfl
set_option maxRecDepth 100000 in
theorem wl_1787 : Cond.instanceMethod yX12_denied ∈ gtb := mg 1787 rfl rfl
set_option maxRecDepth 100000 in
theorem wl_1788 : Cond.selects RX12 yX12_denied yX12_denied ∈ gtb := mg 1788 rfl rfl
set_option maxRecDepth 100000 in
theorem wl_1789 : Cond.code yX12_denied cX12_denied 4 (some .int) ∈ gtb := mg 1789 rfl rfl
set_option maxRecDepth 100000 in
theorem wl_1790 : Cond.methodLink R_law 116 yX12_like ∈ gtb := mg 1790 rfl rfl
set_option maxRecDepth 100000 in
theorem wl_1791 : Cond.instanceMethod yX12_like ∈ gtb := mg 1791 rfl rfl
set_option maxRecDepth 100000 in
theorem wl_1792 : Cond.selects RX12 yX12_like yX12_like ∈ gtb := mg 1792 rfl rfl
set_option maxRecDepth 100000 in
theorem wl_1793 : Cond.code yX12_like cX12_like 4 (some .int) ∈ gtb := mg 1793 rfl rfl
set_option maxRecDepth 100000 in
theorem wl_1834 : Cond.methodLink R_law 120 yX12_find ∈ gtb := mg 1834 rfl rfl
set_option maxRecDepth 100000 in
theorem wl_1835 : Cond.instanceMethod yX12_find ∈ gtb := mg 1835 rfl rfl
set_option maxRecDepth 100000 in
theorem wl_1836 : Cond.selects RX12 yX12_find yX12_find ∈ gtb := mg 1836 rfl rfl
set_option maxRecDepth 100000 in
theorem wl_1837 : Cond.code yX12_find cX12_find 8 (some .int) ∈ gtb := mg 1837 rfl rfl
set_option maxRecDepth 100000 in
theorem wl_1838 : Cond.methodLink R_law 124 yX12_teach ∈ gtb := mg 1838 rfl rfl
set_option maxRecDepth 100000 in
theorem wl_1839 : Cond.instanceMethod yX12_teach ∈ gtb := mg 1839 rfl rfl
set_option maxRecDepth 100000 in
theorem wl_1840 : Cond.selects RX12 yX12_teach yX12_teach ∈ gtb := mg 1840 rfl rfl
set_option maxRecDepth 100000 in
theorem wl_1841 : Cond.code yX12_teach cX12_teach 8 (some .int) ∈ gtb := mg 1841 rfl rfl
set_option maxRecDepth 100000 in
theorem wl_1843 : Cond.methodLink R_law 128 yX12_sheet ∈ gtb := mg 1843 rfl rfl
set_option maxRecDepth 100000 in
theorem wl_1844 : Cond.instanceMethod yX12_sheet ∈ gtb := mg 1844 rfl rfl
set_option maxRecDepth 100000 in
theorem wl_1845 : Cond.selects RX12 yX12_sheet yX12_sheet ∈ gtb := mg 1845 rfl rfl
set_option maxRecDepth 100000 in
theorem wl_1846 : Cond.code yX12_sheet cX12_sheet 5 (some .int) ∈ gtb := mg 1846 rfl rfl
set_option maxRecDepth 100000 in
theorem wl_1850 : Cond.methodLink R_law 132 yX12_lay ∈ gtb := mg 1850 rfl rfl
set_option maxRecDepth 100000 in
theorem wl_1851 : Cond.instanceMethod yX12_lay ∈ gtb := mg 1851 rfl rfl
set_option maxRecDepth 100000 in
theorem wl_1852 : Cond.selects RX12 yX12_lay yX12_lay ∈ gtb := mg 1852 rfl rfl
set_option maxRecDepth 100000 in
theorem wl_1853 : Cond.code yX12_lay cX12_lay 4 (some .int) ∈ gtb := mg 1853 rfl rfl
set_option maxRecDepth 100000 in
theorem wl_1854 : Cond.methodLink R_law 137 yX12_read ∈ gtb := mg 1854 rfl rfl
set_option maxRecDepth 100000 in
theorem wl_1855 : Cond.instanceMethod yX12_read ∈ gtb := mg 1855 rfl rfl
set_option maxRecDepth 100000 in
theorem wl_1856 : Cond.selects RX12 yX12_read yX12_read ∈ gtb := mg 1856 rfl rfl
set_option maxRecDepth 100000 in
theorem wl_1857 : Cond.code yX12_read cX12_read 8 (some .int) ∈ gtb := mg 1857 rfl rfl
set_option maxRecDepth 100000 in
theorem wl_1858 : Cond.methodLink R_law 141 yX12_count ∈ gtb := mg 1858 rfl rfl
set_option maxRecDepth 100000 in
theorem wl_1859 : Cond.instanceMethod yX12_count ∈ gtb := mg 1859 rfl rfl
set_option maxRecDepth 100000 in
theorem wl_1860 : Cond.selects RX12 yX12_count yX12_count ∈ gtb := mg 1860 rfl rfl
set_option maxRecDepth 100000 in
theorem wl_1861 : Cond.code yX12_count cX12_count 2 (some .int) ∈ gtb := mg 1861 rfl rfl
set_option maxRecDepth 100000 in
theorem wl_1866 : Cond.constantLong R_law 13 4294967295 ∈ gtb := mg 1866 rfl rfl
theorem yw_X11_feed : yX11_feed.cls = RX11 ∧ yX11_feed.cls ≠ "java/lang/invoke/MethodHandle" ∧ yX11_feed.cls ≠ "java/lang/invoke/VarHandle" ∧ (parseMethodDescriptor yX11_feed.desc).map (fun d => d.parameters.length) = some 1 := by decide +kernel
theorem yw_X12_feed : yX12_feed.cls = RX12 ∧ yX12_feed.cls ≠ "java/lang/invoke/MethodHandle" ∧ yX12_feed.cls ≠ "java/lang/invoke/VarHandle" ∧ (parseMethodDescriptor yX12_feed.desc).map (fun d => d.parameters.length) = some 1 := by decide +kernel
theorem yw_X11_end : yX11_end.cls = RX11 ∧ yX11_end.cls ≠ "java/lang/invoke/MethodHandle" ∧ yX11_end.cls ≠ "java/lang/invoke/VarHandle" ∧ (parseMethodDescriptor yX11_end.desc).map (fun d => d.parameters.length) = some 1 := by decide +kernel
theorem yw_X12_end : yX12_end.cls = RX12 ∧ yX12_end.cls ≠ "java/lang/invoke/MethodHandle" ∧ yX12_end.cls ≠ "java/lang/invoke/VarHandle" ∧ (parseMethodDescriptor yX12_end.desc).map (fun d => d.parameters.length) = some 1 := by decide +kernel
theorem yw_X11_text : yX11_text.cls = RX11 ∧ yX11_text.cls ≠ "java/lang/invoke/MethodHandle" ∧ yX11_text.cls ≠ "java/lang/invoke/VarHandle" ∧ (parseMethodDescriptor yX11_text.desc).map (fun d => d.parameters.length) = some 0 := by decide +kernel
theorem yw_X12_text : yX12_text.cls = RX12 ∧ yX12_text.cls ≠ "java/lang/invoke/MethodHandle" ∧ yX12_text.cls ≠ "java/lang/invoke/VarHandle" ∧ (parseMethodDescriptor yX12_text.desc).map (fun d => d.parameters.length) = some 0 := by decide +kernel
theorem yw_X11_fault : yX11_fault.cls = RX11 ∧ yX11_fault.cls ≠ "java/lang/invoke/MethodHandle" ∧ yX11_fault.cls ≠ "java/lang/invoke/VarHandle" ∧ (parseMethodDescriptor yX11_fault.desc).map (fun d => d.parameters.length) = some 0 := by decide +kernel
theorem yw_X12_fault : yX12_fault.cls = RX12 ∧ yX12_fault.cls ≠ "java/lang/invoke/MethodHandle" ∧ yX12_fault.cls ≠ "java/lang/invoke/VarHandle" ∧ (parseMethodDescriptor yX12_fault.desc).map (fun d => d.parameters.length) = some 0 := by decide +kernel
theorem yw_X11_hand : yX11_hand.cls = RX11 ∧ yX11_hand.cls ≠ "java/lang/invoke/MethodHandle" ∧ yX11_hand.cls ≠ "java/lang/invoke/VarHandle" ∧ (parseMethodDescriptor yX11_hand.desc).map (fun d => d.parameters.length) = some 1 := by decide +kernel
theorem yw_X12_hand : yX12_hand.cls = RX12 ∧ yX12_hand.cls ≠ "java/lang/invoke/MethodHandle" ∧ yX12_hand.cls ≠ "java/lang/invoke/VarHandle" ∧ (parseMethodDescriptor yX12_hand.desc).map (fun d => d.parameters.length) = some 1 := by decide +kernel
theorem yw_X11_day : yX11_day.cls = RX11 ∧ yX11_day.cls ≠ "java/lang/invoke/MethodHandle" ∧ yX11_day.cls ≠ "java/lang/invoke/VarHandle" ∧ (parseMethodDescriptor yX11_day.desc).map (fun d => d.parameters.length) = some 1 := by decide +kernel
theorem yw_X12_day : yX12_day.cls = RX12 ∧ yX12_day.cls ≠ "java/lang/invoke/MethodHandle" ∧ yX12_day.cls ≠ "java/lang/invoke/VarHandle" ∧ (parseMethodDescriptor yX12_day.desc).map (fun d => d.parameters.length) = some 1 := by decide +kernel
theorem yw_X11_of : yX11_of.cls = RX11 ∧ yX11_of.cls ≠ "java/lang/invoke/MethodHandle" ∧ yX11_of.cls ≠ "java/lang/invoke/VarHandle" ∧ (parseMethodDescriptor yX11_of.desc).map (fun d => d.parameters.length) = some 2 := by decide +kernel
theorem yw_X12_of : yX12_of.cls = RX12 ∧ yX12_of.cls ≠ "java/lang/invoke/MethodHandle" ∧ yX12_of.cls ≠ "java/lang/invoke/VarHandle" ∧ (parseMethodDescriptor yX12_of.desc).map (fun d => d.parameters.length) = some 2 := by decide +kernel
theorem yw_X11_sign : yX11_sign.cls = RX11 ∧ yX11_sign.cls ≠ "java/lang/invoke/MethodHandle" ∧ yX11_sign.cls ≠ "java/lang/invoke/VarHandle" ∧ (parseMethodDescriptor yX11_sign.desc).map (fun d => d.parameters.length) = some 3 := by decide +kernel
theorem yw_X12_sign : yX12_sign.cls = RX12 ∧ yX12_sign.cls ≠ "java/lang/invoke/MethodHandle" ∧ yX12_sign.cls ≠ "java/lang/invoke/VarHandle" ∧ (parseMethodDescriptor yX12_sign.desc).map (fun d => d.parameters.length) = some 3 := by decide +kernel
theorem yw_X11_word : yX11_word.cls = RX11 ∧ yX11_word.cls ≠ "java/lang/invoke/MethodHandle" ∧ yX11_word.cls ≠ "java/lang/invoke/VarHandle" ∧ (parseMethodDescriptor yX11_word.desc).map (fun d => d.parameters.length) = some 2 := by decide +kernel
theorem yw_X12_word : yX12_word.cls = RX12 ∧ yX12_word.cls ≠ "java/lang/invoke/MethodHandle" ∧ yX12_word.cls ≠ "java/lang/invoke/VarHandle" ∧ (parseMethodDescriptor yX12_word.desc).map (fun d => d.parameters.length) = some 2 := by decide +kernel
theorem yw_X11_as : yX11_as.cls = RX11 ∧ yX11_as.cls ≠ "java/lang/invoke/MethodHandle" ∧ yX11_as.cls ≠ "java/lang/invoke/VarHandle" ∧ (parseMethodDescriptor yX11_as.desc).map (fun d => d.parameters.length) = some 2 := by decide +kernel
theorem yw_X12_as : yX12_as.cls = RX12 ∧ yX12_as.cls ≠ "java/lang/invoke/MethodHandle" ∧ yX12_as.cls ≠ "java/lang/invoke/VarHandle" ∧ (parseMethodDescriptor yX12_as.desc).map (fun d => d.parameters.length) = some 2 := by decide +kernel
theorem yw_X11_prove : yX11_prove.cls = RX11 ∧ yX11_prove.cls ≠ "java/lang/invoke/MethodHandle" ∧ yX11_prove.cls ≠ "java/lang/invoke/VarHandle" ∧ (parseMethodDescriptor yX11_prove.desc).map (fun d => d.parameters.length) = some 1 := by decide +kernel
theorem yw_X12_prove : yX12_prove.cls = RX12 ∧ yX12_prove.cls ≠ "java/lang/invoke/MethodHandle" ∧ yX12_prove.cls ≠ "java/lang/invoke/VarHandle" ∧ (parseMethodDescriptor yX12_prove.desc).map (fun d => d.parameters.length) = some 1 := by decide +kernel
theorem yw_X11_step : yX11_step.cls = RX11 ∧ yX11_step.cls ≠ "java/lang/invoke/MethodHandle" ∧ yX11_step.cls ≠ "java/lang/invoke/VarHandle" ∧ (parseMethodDescriptor yX11_step.desc).map (fun d => d.parameters.length) = some 3 := by decide +kernel
theorem yw_X12_step : yX12_step.cls = RX12 ∧ yX12_step.cls ≠ "java/lang/invoke/MethodHandle" ∧ yX12_step.cls ≠ "java/lang/invoke/VarHandle" ∧ (parseMethodDescriptor yX12_step.desc).map (fun d => d.parameters.length) = some 3 := by decide +kernel
theorem yw_X11_undo : yX11_undo.cls = RX11 ∧ yX11_undo.cls ≠ "java/lang/invoke/MethodHandle" ∧ yX11_undo.cls ≠ "java/lang/invoke/VarHandle" ∧ (parseMethodDescriptor yX11_undo.desc).map (fun d => d.parameters.length) = some 0 := by decide +kernel
theorem yw_X12_undo : yX12_undo.cls = RX12 ∧ yX12_undo.cls ≠ "java/lang/invoke/MethodHandle" ∧ yX12_undo.cls ≠ "java/lang/invoke/VarHandle" ∧ (parseMethodDescriptor yX12_undo.desc).map (fun d => d.parameters.length) = some 0 := by decide +kernel
theorem yw_X11_proof : yX11_proof.cls = RX11 ∧ yX11_proof.cls ≠ "java/lang/invoke/MethodHandle" ∧ yX11_proof.cls ≠ "java/lang/invoke/VarHandle" ∧ (parseMethodDescriptor yX11_proof.desc).map (fun d => d.parameters.length) = some 1 := by decide +kernel
theorem yw_X12_proof : yX12_proof.cls = RX12 ∧ yX12_proof.cls ≠ "java/lang/invoke/MethodHandle" ∧ yX12_proof.cls ≠ "java/lang/invoke/VarHandle" ∧ (parseMethodDescriptor yX12_proof.desc).map (fun d => d.parameters.length) = some 1 := by decide +kernel
theorem yw_X11_show : yX11_show.cls = RX11 ∧ yX11_show.cls ≠ "java/lang/invoke/MethodHandle" ∧ yX11_show.cls ≠ "java/lang/invoke/VarHandle" ∧ (parseMethodDescriptor yX11_show.desc).map (fun d => d.parameters.length) = some 0 := by decide +kernel
theorem yw_X12_show : yX12_show.cls = RX12 ∧ yX12_show.cls ≠ "java/lang/invoke/MethodHandle" ∧ yX12_show.cls ≠ "java/lang/invoke/VarHandle" ∧ (parseMethodDescriptor yX12_show.desc).map (fun d => d.parameters.length) = some 0 := by decide +kernel
theorem yw_X11_stepOf : yX11_stepOf.cls = RX11 ∧ yX11_stepOf.cls ≠ "java/lang/invoke/MethodHandle" ∧ yX11_stepOf.cls ≠ "java/lang/invoke/VarHandle" ∧ (parseMethodDescriptor yX11_stepOf.desc).map (fun d => d.parameters.length) = some 3 := by decide +kernel
theorem yw_X12_stepOf : yX12_stepOf.cls = RX12 ∧ yX12_stepOf.cls ≠ "java/lang/invoke/MethodHandle" ∧ yX12_stepOf.cls ≠ "java/lang/invoke/VarHandle" ∧ (parseMethodDescriptor yX12_stepOf.desc).map (fun d => d.parameters.length) = some 3 := by decide +kernel
theorem yw_X11_leans : yX11_leans.cls = RX11 ∧ yX11_leans.cls ≠ "java/lang/invoke/MethodHandle" ∧ yX11_leans.cls ≠ "java/lang/invoke/VarHandle" ∧ (parseMethodDescriptor yX11_leans.desc).map (fun d => d.parameters.length) = some 2 := by decide +kernel
theorem yw_X12_leans : yX12_leans.cls = RX12 ∧ yX12_leans.cls ≠ "java/lang/invoke/MethodHandle" ∧ yX12_leans.cls ≠ "java/lang/invoke/VarHandle" ∧ (parseMethodDescriptor yX12_leans.desc).map (fun d => d.parameters.length) = some 2 := by decide +kernel
theorem yw_X11_change : yX11_change.cls = RX11 ∧ yX11_change.cls ≠ "java/lang/invoke/MethodHandle" ∧ yX11_change.cls ≠ "java/lang/invoke/VarHandle" ∧ (parseMethodDescriptor yX11_change.desc).map (fun d => d.parameters.length) = some 1 := by decide +kernel
theorem yw_X12_change : yX12_change.cls = RX12 ∧ yX12_change.cls ≠ "java/lang/invoke/MethodHandle" ∧ yX12_change.cls ≠ "java/lang/invoke/VarHandle" ∧ (parseMethodDescriptor yX12_change.desc).map (fun d => d.parameters.length) = some 1 := by decide +kernel
theorem yw_X11_seek : yX11_seek.cls = RX11 ∧ yX11_seek.cls ≠ "java/lang/invoke/MethodHandle" ∧ yX11_seek.cls ≠ "java/lang/invoke/VarHandle" ∧ (parseMethodDescriptor yX11_seek.desc).map (fun d => d.parameters.length) = some 4 := by decide +kernel
theorem yw_X12_seek : yX12_seek.cls = RX12 ∧ yX12_seek.cls ≠ "java/lang/invoke/MethodHandle" ∧ yX12_seek.cls ≠ "java/lang/invoke/VarHandle" ∧ (parseMethodDescriptor yX12_seek.desc).map (fun d => d.parameters.length) = some 4 := by decide +kernel
theorem yw_X11_take : yX11_take.cls = RX11 ∧ yX11_take.cls ≠ "java/lang/invoke/MethodHandle" ∧ yX11_take.cls ≠ "java/lang/invoke/VarHandle" ∧ (parseMethodDescriptor yX11_take.desc).map (fun d => d.parameters.length) = some 3 := by decide +kernel
theorem yw_X12_take : yX12_take.cls = RX12 ∧ yX12_take.cls ≠ "java/lang/invoke/MethodHandle" ∧ yX12_take.cls ≠ "java/lang/invoke/VarHandle" ∧ (parseMethodDescriptor yX12_take.desc).map (fun d => d.parameters.length) = some 3 := by decide +kernel
theorem yw_X11_holds : yX11_holds.cls = RX11 ∧ yX11_holds.cls ≠ "java/lang/invoke/MethodHandle" ∧ yX11_holds.cls ≠ "java/lang/invoke/VarHandle" ∧ (parseMethodDescriptor yX11_holds.desc).map (fun d => d.parameters.length) = some 3 := by decide +kernel
theorem yw_X12_holds : yX12_holds.cls = RX12 ∧ yX12_holds.cls ≠ "java/lang/invoke/MethodHandle" ∧ yX12_holds.cls ≠ "java/lang/invoke/VarHandle" ∧ (parseMethodDescriptor yX12_holds.desc).map (fun d => d.parameters.length) = some 3 := by decide +kernel
theorem yw_X11_worlds : yX11_worlds.cls = RX11 ∧ yX11_worlds.cls ≠ "java/lang/invoke/MethodHandle" ∧ yX11_worlds.cls ≠ "java/lang/invoke/VarHandle" ∧ (parseMethodDescriptor yX11_worlds.desc).map (fun d => d.parameters.length) = some 2 := by decide +kernel
theorem yw_X12_worlds : yX12_worlds.cls = RX12 ∧ yX12_worlds.cls ≠ "java/lang/invoke/MethodHandle" ∧ yX12_worlds.cls ≠ "java/lang/invoke/VarHandle" ∧ (parseMethodDescriptor yX12_worlds.desc).map (fun d => d.parameters.length) = some 2 := by decide +kernel
theorem yw_X11_denied : yX11_denied.cls = RX11 ∧ yX11_denied.cls ≠ "java/lang/invoke/MethodHandle" ∧ yX11_denied.cls ≠ "java/lang/invoke/VarHandle" ∧ (parseMethodDescriptor yX11_denied.desc).map (fun d => d.parameters.length) = some 2 := by decide +kernel
theorem yw_X12_denied : yX12_denied.cls = RX12 ∧ yX12_denied.cls ≠ "java/lang/invoke/MethodHandle" ∧ yX12_denied.cls ≠ "java/lang/invoke/VarHandle" ∧ (parseMethodDescriptor yX12_denied.desc).map (fun d => d.parameters.length) = some 2 := by decide +kernel
theorem yw_X11_like : yX11_like.cls = RX11 ∧ yX11_like.cls ≠ "java/lang/invoke/MethodHandle" ∧ yX11_like.cls ≠ "java/lang/invoke/VarHandle" ∧ (parseMethodDescriptor yX11_like.desc).map (fun d => d.parameters.length) = some 3 := by decide +kernel
theorem yw_X12_like : yX12_like.cls = RX12 ∧ yX12_like.cls ≠ "java/lang/invoke/MethodHandle" ∧ yX12_like.cls ≠ "java/lang/invoke/VarHandle" ∧ (parseMethodDescriptor yX12_like.desc).map (fun d => d.parameters.length) = some 3 := by decide +kernel
theorem yw_X11_find : yX11_find.cls = RX11 ∧ yX11_find.cls ≠ "java/lang/invoke/MethodHandle" ∧ yX11_find.cls ≠ "java/lang/invoke/VarHandle" ∧ (parseMethodDescriptor yX11_find.desc).map (fun d => d.parameters.length) = some 3 := by decide +kernel
theorem yw_X12_find : yX12_find.cls = RX12 ∧ yX12_find.cls ≠ "java/lang/invoke/MethodHandle" ∧ yX12_find.cls ≠ "java/lang/invoke/VarHandle" ∧ (parseMethodDescriptor yX12_find.desc).map (fun d => d.parameters.length) = some 3 := by decide +kernel
theorem yw_X11_teach : yX11_teach.cls = RX11 ∧ yX11_teach.cls ≠ "java/lang/invoke/MethodHandle" ∧ yX11_teach.cls ≠ "java/lang/invoke/VarHandle" ∧ (parseMethodDescriptor yX11_teach.desc).map (fun d => d.parameters.length) = some 3 := by decide +kernel
theorem yw_X12_teach : yX12_teach.cls = RX12 ∧ yX12_teach.cls ≠ "java/lang/invoke/MethodHandle" ∧ yX12_teach.cls ≠ "java/lang/invoke/VarHandle" ∧ (parseMethodDescriptor yX12_teach.desc).map (fun d => d.parameters.length) = some 3 := by decide +kernel
theorem yw_X11_sheet : yX11_sheet.cls = RX11 ∧ yX11_sheet.cls ≠ "java/lang/invoke/MethodHandle" ∧ yX11_sheet.cls ≠ "java/lang/invoke/VarHandle" ∧ (parseMethodDescriptor yX11_sheet.desc).map (fun d => d.parameters.length) = some 3 := by decide +kernel
theorem yw_X12_sheet : yX12_sheet.cls = RX12 ∧ yX12_sheet.cls ≠ "java/lang/invoke/MethodHandle" ∧ yX12_sheet.cls ≠ "java/lang/invoke/VarHandle" ∧ (parseMethodDescriptor yX12_sheet.desc).map (fun d => d.parameters.length) = some 3 := by decide +kernel
theorem yw_X11_lay : yX11_lay.cls = RX11 ∧ yX11_lay.cls ≠ "java/lang/invoke/MethodHandle" ∧ yX11_lay.cls ≠ "java/lang/invoke/VarHandle" ∧ (parseMethodDescriptor yX11_lay.desc).map (fun d => d.parameters.length) = some 3 := by decide +kernel
theorem yw_X12_lay : yX12_lay.cls = RX12 ∧ yX12_lay.cls ≠ "java/lang/invoke/MethodHandle" ∧ yX12_lay.cls ≠ "java/lang/invoke/VarHandle" ∧ (parseMethodDescriptor yX12_lay.desc).map (fun d => d.parameters.length) = some 3 := by decide +kernel
theorem yw_X11_read : yX11_read.cls = RX11 ∧ yX11_read.cls ≠ "java/lang/invoke/MethodHandle" ∧ yX11_read.cls ≠ "java/lang/invoke/VarHandle" ∧ (parseMethodDescriptor yX11_read.desc).map (fun d => d.parameters.length) = some 5 := by decide +kernel
theorem yw_X12_read : yX12_read.cls = RX12 ∧ yX12_read.cls ≠ "java/lang/invoke/MethodHandle" ∧ yX12_read.cls ≠ "java/lang/invoke/VarHandle" ∧ (parseMethodDescriptor yX12_read.desc).map (fun d => d.parameters.length) = some 5 := by decide +kernel
theorem yw_X11_count : yX11_count.cls = RX11 ∧ yX11_count.cls ≠ "java/lang/invoke/MethodHandle" ∧ yX11_count.cls ≠ "java/lang/invoke/VarHandle" ∧ (parseMethodDescriptor yX11_count.desc).map (fun d => d.parameters.length) = some 1 := by decide +kernel
theorem yw_X12_count : yX12_count.cls = RX12 ∧ yX12_count.cls ≠ "java/lang/invoke/MethodHandle" ∧ yX12_count.cls ≠ "java/lang/invoke/VarHandle" ∧ (parseMethodDescriptor yX12_count.desc).map (fun d => d.parameters.length) = some 1 := by decide +kernel
