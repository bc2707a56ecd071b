/-! SX: the law's turn, case by case, by program -/
section SXL
set_option maxRecDepth 1000000 in
theorem tuC445 : tuGood 445 := tuGood3 (tuSeg (J := 3) (sp := []) (cs := [(ctTng), ct122]) (Or.inl rfl) 135 (by decide +kernel) (fun {T} => (List.forall_mem_cons.mpr ⟨cvTng ghGd, (List.forall_mem_cons.mpr ⟨cv122 ghGd, (fun _ h => absurd h List.not_mem_nil)⟩)⟩)))
set_option maxRecDepth 1000000 in
theorem tuC473 : tuGood 473 := tuGood3 (tuSeg (J := 3) (sp := []) (cs := []) (Or.inl rfl) 80 (by decide +kernel) (fun {T} => (fun _ h => absurd h List.not_mem_nil)))
set_option maxRecDepth 1000000 in
theorem tuC486 : tuGood 486 := tuGood3 (tuSeg (J := 3) (sp := []) (cs := []) (Or.inl rfl) 578 (by decide +kernel) (fun {T} => (fun _ h => absurd h List.not_mem_nil)))
set_option maxRecDepth 1000000 in
theorem tuC514 : tuGood 514 := tuGood3 (tuSeg (J := 3) (sp := []) (cs := []) (Or.inl rfl) 315 (by decide +kernel) (fun {T} => (fun _ h => absurd h List.not_mem_nil)))
set_option maxRecDepth 1000000 in
theorem tuC542 : tuGood 542 := tuGood3 (tuSeg (J := 3) (sp := []) (cs := []) (Or.inl rfl) 299 (by decide +kernel) (fun {T} => (fun _ h => absurd h List.not_mem_nil)))
set_option maxRecDepth 1000000 in
theorem tuC570 : tuGood 570 := tuGood3 (tuSeg (J := 3) (sp := []) (cs := []) (Or.inl rfl) 300 (by decide +kernel) (fun {T} => (fun _ h => absurd h List.not_mem_nil)))
set_option maxRecDepth 1000000 in
theorem tuC598 : tuGood 598 := tuGood3 (tuSeg (J := 3) (sp := []) (cs := [ct232, ct234, ct233]) (Or.inl rfl) 127 (by decide +kernel) (fun {T} => (List.forall_mem_cons.mpr ⟨cv232 ghGd, (List.forall_mem_cons.mpr ⟨cv234 ghGd, (List.forall_mem_cons.mpr ⟨cv233 ghGd, (fun _ h => absurd h List.not_mem_nil)⟩)⟩)⟩)))
set_option maxRecDepth 1000000 in
theorem tuC638 : tuGood 638 := tuGood3 (tuSeg (J := 3) (sp := []) (cs := [ct238, ct237, ct236, ct235]) (Or.inl rfl) 508 (by decide +kernel) (fun {T} => (List.forall_mem_cons.mpr ⟨cv238 ghGd, (List.forall_mem_cons.mpr ⟨cv237 ghGd, (List.forall_mem_cons.mpr ⟨cv236 ghGd, (List.forall_mem_cons.mpr ⟨cv235 ghGd, (fun _ h => absurd h List.not_mem_nil)⟩)⟩)⟩)⟩)))
set_option maxRecDepth 1000000 in
theorem tuC690 : tuGood 690 := tuGood3 (tuSeg (J := 3) (sp := []) (cs := [ct239, ct240]) (Or.inl rfl) 86 (by decide +kernel) (fun {T} => (List.forall_mem_cons.mpr ⟨cv239 ghGd, (List.forall_mem_cons.mpr ⟨cv240 ghGd, (fun _ h => absurd h List.not_mem_nil)⟩)⟩)))
set_option maxRecDepth 1000000 in
theorem tuC703 : tuGood 703 := tuGood3 (tuSeg (J := 3) (sp := []) (cs := [ct241, ct242]) (Or.inl rfl) 73 (by decide +kernel) (fun {T} => (List.forall_mem_cons.mpr ⟨cv241 ghGd, (List.forall_mem_cons.mpr ⟨cv242 ghGd, (fun _ h => absurd h List.not_mem_nil)⟩)⟩)))
set_option maxRecDepth 1000000 in
theorem tuC716 : tuGood 716 := tuGood3 (tuSeg (J := 3) (sp := []) (cs := [ct244, ct245]) (Or.inl rfl) 107 (by decide +kernel) (fun {T} => (List.forall_mem_cons.mpr ⟨cv244 ghGd, (List.forall_mem_cons.mpr ⟨cv245 ghGd, (fun _ h => absurd h List.not_mem_nil)⟩)⟩)))
set_option maxRecDepth 1000000 in
theorem tuC773 : tuGood 773 := tuGood3 (tuSeg (J := 3) (sp := []) (cs := []) (Or.inl rfl) 199 (by decide +kernel) (fun {T} => (fun _ h => absurd h List.not_mem_nil)))
set_option maxRecDepth 1000000 in
theorem tuC798 : tuGood 798 := tuGood3 (tuSeg (J := 3) (sp := []) (cs := []) (Or.inl rfl) 299 (by decide +kernel) (fun {T} => (fun _ h => absurd h List.not_mem_nil)))
set_option maxRecDepth 1000000 in
theorem tuC826 : tuGood 826 := tuGood3 (tuSeg (J := 3) (sp := [(826, 3, 0)]) (cs := []) (Or.inl rfl) 1639 (by decide +kernel) (fun {T} => (fun _ h => absurd h List.not_mem_nil)))
set_option maxRecDepth 1000000 in
theorem tuC854 : tuGood 854 := tuGood3 (tuSeg (J := 3) (sp := []) (cs := [ct286, ct287, ct375, ct288]) (Or.inl rfl) 464 (by decide +kernel) (fun {T} => (List.forall_mem_cons.mpr ⟨cv286 ghGd, (List.forall_mem_cons.mpr ⟨cv287 ghGd, (List.forall_mem_cons.mpr ⟨cv375 ghGd, (List.forall_mem_cons.mpr ⟨cv288 ghGd, (fun _ h => absurd h List.not_mem_nil)⟩)⟩)⟩)⟩)))
set_option maxRecDepth 1000000 in
theorem tuC882 : tuGood 882 := tuGood3 (tuSeg (J := 3) (sp := []) (cs := [ct376, ct379, ct377, ct378]) (Or.inl rfl) 149 (by decide +kernel) (fun {T} => (List.forall_mem_cons.mpr ⟨cv376 ghGd, (List.forall_mem_cons.mpr ⟨cv379 ghGd, (List.forall_mem_cons.mpr ⟨cv377 ghGd, (List.forall_mem_cons.mpr ⟨cv378 ghGd, (fun _ h => absurd h List.not_mem_nil)⟩)⟩)⟩)⟩)))
set_option maxRecDepth 1000000 in
theorem tuC922 : tuGood 922 := tuGood3 (tuSeg (J := 3) (sp := []) (cs := [ct386, ct390, ct389]) (Or.inl rfl) 111 (by decide +kernel) (fun {T} => (List.forall_mem_cons.mpr ⟨cv386 ghGd, (List.forall_mem_cons.mpr ⟨cv390 ghGd, (List.forall_mem_cons.mpr ⟨cv389 ghGd, (fun _ h => absurd h List.not_mem_nil)⟩)⟩)⟩)))
set_option maxRecDepth 1000000 in
theorem tuC950 : tuGood 950 := tuGood3 (tuSeg (J := 3) (sp := []) (cs := [ct394, ct395]) (Or.inl rfl) 73 (by decide +kernel) (fun {T} => (List.forall_mem_cons.mpr ⟨cv394 ghGd, (List.forall_mem_cons.mpr ⟨cv395 ghGd, (fun _ h => absurd h List.not_mem_nil)⟩)⟩)))
set_option maxRecDepth 1000000 in
theorem tuC963 : tuGood 963 := tuGood3 (tuSeg (J := 3) (sp := []) (cs := [ct608, ct729, ct730]) (Or.inl rfl) 128 (by decide +kernel) (fun {T} => (List.forall_mem_cons.mpr ⟨cv608 ghGd, (List.forall_mem_cons.mpr ⟨cv729 ghGd, (List.forall_mem_cons.mpr ⟨cv730 ghGd, (fun _ h => absurd h List.not_mem_nil)⟩)⟩)⟩)))
set_option maxRecDepth 1000000 in
theorem tuC991 : tuGood 991 := tuGood3 (tuSeg (J := 3) (sp := []) (cs := [ct603, ct607, ct598, ct599, ct600, ct601, ct602, ct605, ct606, ct604, ct758, ct753, ct755, ct756, ct757, ct754, ct732, ct731]) (Or.inl rfl) 568 (by decide +kernel) (fun {T} => (List.forall_mem_cons.mpr ⟨cv603 ghGd, (List.forall_mem_cons.mpr ⟨cv607 ghGd, (List.forall_mem_cons.mpr ⟨cv598 ghGd, (List.forall_mem_cons.mpr ⟨cv599 ghGd, (List.forall_mem_cons.mpr ⟨cv600 ghGd, (List.forall_mem_cons.mpr ⟨cv601 ghGd, (List.forall_mem_cons.mpr ⟨cv602 ghGd, (List.forall_mem_cons.mpr ⟨cv605 ghGd, (List.forall_mem_cons.mpr ⟨cv606 ghGd, (List.forall_mem_cons.mpr ⟨cv604 ghGd, (List.forall_mem_cons.mpr ⟨cv758 ghGd, (List.forall_mem_cons.mpr ⟨cv753 ghGd, (List.forall_mem_cons.mpr ⟨cv755 ghGd, (List.forall_mem_cons.mpr ⟨cv756 ghGd, (List.forall_mem_cons.mpr ⟨cv757 ghGd, (List.forall_mem_cons.mpr ⟨cv754 ghGd, (List.forall_mem_cons.mpr ⟨cv732 ghGd, (List.forall_mem_cons.mpr ⟨cv731 ghGd, (fun _ h => absurd h List.not_mem_nil)⟩)⟩)⟩)⟩)⟩)⟩)⟩)⟩)⟩)⟩)⟩)⟩)⟩)⟩)⟩)⟩)⟩)⟩)))
set_option maxRecDepth 1000000 in
theorem tuC1019 : tuGood 1019 := tuGood3 (tuSeg (J := 3) (sp := []) (cs := [ct765, ct766]) (Or.inl rfl) 95 (by decide +kernel) (fun {T} => (List.forall_mem_cons.mpr ⟨cv765 ghGd, (List.forall_mem_cons.mpr ⟨cv766 ghGd, (fun _ h => absurd h List.not_mem_nil)⟩)⟩)))
set_option maxRecDepth 1000000 in
theorem tuC1035 : tuGood 1035 := tuGood3 (tuSeg (J := 3) (sp := []) (cs := [ct385, ct387]) (Or.inl rfl) 1253 (by decide +kernel) (fun {T} => (List.forall_mem_cons.mpr ⟨cv385 ghGd, (List.forall_mem_cons.mpr ⟨cv387 ghGd, (fun _ h => absurd h List.not_mem_nil)⟩)⟩)))
set_option maxRecDepth 1000000 in
theorem tuC1075 : tuGood 1075 := tuGood3 (tuSeg (J := 3) (sp := []) (cs := [ct803, ct883, ct882]) (Or.inl rfl) 127 (by decide +kernel) (fun {T} => (List.forall_mem_cons.mpr ⟨cv803 ghGd, (List.forall_mem_cons.mpr ⟨cv883 ghGd, (List.forall_mem_cons.mpr ⟨cv882 ghGd, (fun _ h => absurd h List.not_mem_nil)⟩)⟩)⟩)))
set_option maxRecDepth 1000000 in
theorem tuC1115 : tuGood 1115 := tuGood3 (tuSeg (J := 3) (sp := []) (cs := [ct802, ct885, ct886, ct884]) (Or.inl rfl) 197 (by decide +kernel) (fun {T} => (List.forall_mem_cons.mpr ⟨cv802 ghGd, (List.forall_mem_cons.mpr ⟨cv885 ghGd, (List.forall_mem_cons.mpr ⟨cv886 ghGd, (List.forall_mem_cons.mpr ⟨cv884 ghGd, (fun _ h => absurd h List.not_mem_nil)⟩)⟩)⟩)⟩)))
set_option maxRecDepth 1000000 in
theorem tuC1155 : tuGood 1155 := tuGood3 (tuSeg (J := 3) (sp := []) (cs := [ct802, ct888, ct889, ct887]) (Or.inl rfl) 177 (by decide +kernel) (fun {T} => (List.forall_mem_cons.mpr ⟨cv802 ghGd, (List.forall_mem_cons.mpr ⟨cv888 ghGd, (List.forall_mem_cons.mpr ⟨cv889 ghGd, (List.forall_mem_cons.mpr ⟨cv887 ghGd, (fun _ h => absurd h List.not_mem_nil)⟩)⟩)⟩)⟩)))
set_option maxRecDepth 1000000 in
theorem tuC1183 : tuGood 1183 := tuGood3 (tuSeg (J := 3) (sp := []) (cs := [ct890, ct898, ct897]) (Or.inl rfl) 127 (by decide +kernel) (fun {T} => (List.forall_mem_cons.mpr ⟨cv890 ghGd, (List.forall_mem_cons.mpr ⟨cv898 ghGd, (List.forall_mem_cons.mpr ⟨cv897 ghGd, (fun _ h => absurd h List.not_mem_nil)⟩)⟩)⟩)))
set_option maxRecDepth 1000000 in
theorem tuC1223 : tuGood 1223 := tuGood3 (tuSeg (J := 3) (sp := []) (cs := [ct935, ct937, ct936]) (Or.inl rfl) 111 (by decide +kernel) (fun {T} => (List.forall_mem_cons.mpr ⟨cv935 ghGd, (List.forall_mem_cons.mpr ⟨cv937 ghGd, (List.forall_mem_cons.mpr ⟨cv936 ghGd, (fun _ h => absurd h List.not_mem_nil)⟩)⟩)⟩)))
set_option maxRecDepth 1000000 in
theorem tuC1251 : tuGood 1251 := tuGood3 (tuSeg (J := 3) (sp := []) (cs := [ct964, ct981, ct980]) (Or.inl rfl) 111 (by decide +kernel) (fun {T} => (List.forall_mem_cons.mpr ⟨cv964 ghGd, (List.forall_mem_cons.mpr ⟨cv981 ghGd, (List.forall_mem_cons.mpr ⟨cv980 ghGd, (fun _ h => absurd h List.not_mem_nil)⟩)⟩)⟩)))
set_option maxRecDepth 1000000 in
theorem tuC1279 : tuGood 1279 := tuGood3 (tuSeg (J := 3) (sp := []) (cs := [ct949, ct963, ct979]) (Or.inl rfl) 555 (by decide +kernel) (fun {T} => (List.forall_mem_cons.mpr ⟨cv949 ghGd, (List.forall_mem_cons.mpr ⟨cv963 ghGd, (List.forall_mem_cons.mpr ⟨cv979 ghGd, (fun _ h => absurd h List.not_mem_nil)⟩)⟩)⟩)))
set_option maxRecDepth 1000000 in
theorem tuC1307 : tuGood 1307 := tuGood3 (tuSeg (J := 3) (sp := []) (cs := [ct239, ct598, ct599, ct600, ct601, ct605, ct602, ct603, ct604, ct606, ct607, ct1040, ct1095, ct984, ct985, ct1150, ct1149, ct1094, ct1039, ct983, ct982]) (Or.inl rfl) 605 (by decide +kernel) (fun {T} => (List.forall_mem_cons.mpr ⟨cv239 ghGd, (List.forall_mem_cons.mpr ⟨cv598 ghGd, (List.forall_mem_cons.mpr ⟨cv599 ghGd, (List.forall_mem_cons.mpr ⟨cv600 ghGd, (List.forall_mem_cons.mpr ⟨cv601 ghGd, (List.forall_mem_cons.mpr ⟨cv605 ghGd, (List.forall_mem_cons.mpr ⟨cv602 ghGd, (List.forall_mem_cons.mpr ⟨cv603 ghGd, (List.forall_mem_cons.mpr ⟨cv604 ghGd, (List.forall_mem_cons.mpr ⟨cv606 ghGd, (List.forall_mem_cons.mpr ⟨cv607 ghGd, (List.forall_mem_cons.mpr ⟨cv1040 ghGd, (List.forall_mem_cons.mpr ⟨cv1095 ghGd, (List.forall_mem_cons.mpr ⟨cv984 ghGd, (List.forall_mem_cons.mpr ⟨cv985 ghGd, (List.forall_mem_cons.mpr ⟨cv1150 ghGd, (List.forall_mem_cons.mpr ⟨cv1149 ghGd, (List.forall_mem_cons.mpr ⟨cv1094 ghGd, (List.forall_mem_cons.mpr ⟨cv1039 ghGd, (List.forall_mem_cons.mpr ⟨cv983 ghGd, (List.forall_mem_cons.mpr ⟨cv982 ghGd, (fun _ h => absurd h List.not_mem_nil)⟩)⟩)⟩)⟩)⟩)⟩)⟩)⟩)⟩)⟩)⟩)⟩)⟩)⟩)⟩)⟩)⟩)⟩)⟩)⟩)⟩)))
set_option maxRecDepth 1000000 in
theorem tuC1335 : tuGood 1335 := tuGood3 (tuSeg (J := 3) (sp := []) (cs := [ct1152, ct1155, ct1154]) (Or.inl rfl) 143 (by decide +kernel) (fun {T} => (List.forall_mem_cons.mpr ⟨cv1152 ghGd, (List.forall_mem_cons.mpr ⟨cv1155 ghGd, (List.forall_mem_cons.mpr ⟨cv1154 ghGd, (fun _ h => absurd h List.not_mem_nil)⟩)⟩)⟩)))
set_option maxRecDepth 1000000 in
theorem tuC1387 : tuGood 1387 := tuGood3 (tuSeg (J := 3) (sp := []) (cs := [ct1151, ct1153]) (Or.inl rfl) 223 (by decide +kernel) (fun {T} => (List.forall_mem_cons.mpr ⟨cv1151 ghGd, (List.forall_mem_cons.mpr ⟨cv1153 ghGd, (fun _ h => absurd h List.not_mem_nil)⟩)⟩)))
set_option maxRecDepth 1000000 in
theorem tuC1424 : tuGood 1424 := tuGood3 (tuSeg (J := 3) (sp := []) (cs := [ct287, ct1166, ct1167]) (Or.inl rfl) 564 (by decide +kernel) (fun {T} => (List.forall_mem_cons.mpr ⟨cv287 ghGd, (List.forall_mem_cons.mpr ⟨cv1166 ghGd, (List.forall_mem_cons.mpr ⟨cv1167 ghGd, (fun _ h => absurd h List.not_mem_nil)⟩)⟩)⟩)))
set_option maxRecDepth 1000000 in
theorem tuC1464 : tuGood 1464 := tuGood3 (tuSeg (J := 3) (sp := []) (cs := [ct1216, ct1235, ct1234]) (Or.inl rfl) 111 (by decide +kernel) (fun {T} => (List.forall_mem_cons.mpr ⟨cv1216 ghGd, (List.forall_mem_cons.mpr ⟨cv1235 ghGd, (List.forall_mem_cons.mpr ⟨cv1234 ghGd, (fun _ h => absurd h List.not_mem_nil)⟩)⟩)⟩)))
set_option maxRecDepth 1000000 in
theorem tuC1492 : tuGood 1492 := tuGood3 (tuSeg (J := 3) (sp := []) (cs := [ct1236, ct1238, ct1237]) (Or.inl rfl) 111 (by decide +kernel) (fun {T} => (List.forall_mem_cons.mpr ⟨cv1236 ghGd, (List.forall_mem_cons.mpr ⟨cv1238 ghGd, (List.forall_mem_cons.mpr ⟨cv1237 ghGd, (fun _ h => absurd h List.not_mem_nil)⟩)⟩)⟩)))
end SXL
