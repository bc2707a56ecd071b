/-! SX: the law's turn, case by case, by program -/
section SXL
set_option maxRecDepth 1000000 in
theorem tuC389 : tuGood 389 := tuSeg (cs := [ct148, ct110]) 129 (by decide +kernel) (fun {T} => (List.forall_mem_cons.mpr ⟨cv148 ghGd, (List.forall_mem_cons.mpr ⟨cv110 ghGd, (fun _ h => absurd h List.not_mem_nil)⟩)⟩))
set_option maxRecDepth 1000000 in
theorem tuC417 : tuGood 417 := tuSeg (cs := [(ctTng), ct268]) 135 (by decide +kernel) (fun {T} => (List.forall_mem_cons.mpr ⟨cvTng ghGd, (List.forall_mem_cons.mpr ⟨cv268 ghGd, (fun _ h => absurd h List.not_mem_nil)⟩)⟩))
set_option maxRecDepth 1000000 in
theorem tuC445 : tuGood 445 := tuSeg (cs := []) 80 (by decide +kernel) (fun {T} => (fun _ h => absurd h List.not_mem_nil))
set_option maxRecDepth 1000000 in
theorem tuC458 : tuGood 458 := tuSeg (cs := []) 802 (by decide +kernel) (fun {T} => (fun _ h => absurd h List.not_mem_nil))
set_option maxRecDepth 1000000 in
theorem tuC486 : tuGood 486 := tuSeg (cs := []) 605 (by decide +kernel) (fun {T} => (fun _ h => absurd h List.not_mem_nil))
set_option maxRecDepth 1000000 in
theorem tuC514 : tuGood 514 := tuSeg (cs := []) 576 (by decide +kernel) (fun {T} => (fun _ h => absurd h List.not_mem_nil))
set_option maxRecDepth 1000000 in
theorem tuC542 : tuGood 542 := tuSeg (cs := []) 360 (by decide +kernel) (fun {T} => (fun _ h => absurd h List.not_mem_nil))
set_option maxRecDepth 1000000 in
theorem tuC570 : tuGood 570 := tuSeg (cs := [ct377, ct379, ct378]) 127 (by decide +kernel) (fun {T} => (List.forall_mem_cons.mpr ⟨cv377 ghGd, (List.forall_mem_cons.mpr ⟨cv379 ghGd, (List.forall_mem_cons.mpr ⟨cv378 ghGd, (fun _ h => absurd h List.not_mem_nil)⟩)⟩)⟩))
set_option maxRecDepth 1000000 in
theorem tuC610 : tuGood 610 := tuSeg (cs := [ct383, ct382, ct381, ct380]) 885 (by decide +kernel) (fun {T} => (List.forall_mem_cons.mpr ⟨cv383 ghGd, (List.forall_mem_cons.mpr ⟨cv382 ghGd, (List.forall_mem_cons.mpr ⟨cv381 ghGd, (List.forall_mem_cons.mpr ⟨cv380 ghGd, (fun _ h => absurd h List.not_mem_nil)⟩)⟩)⟩)⟩))
set_option maxRecDepth 1000000 in
theorem tuC662 : tuGood 662 := tuSeg (cs := [ct384, ct386, ct385]) 108 (by decide +kernel) (fun {T} => (List.forall_mem_cons.mpr ⟨cv384 ghGd, (List.forall_mem_cons.mpr ⟨cv386 ghGd, (List.forall_mem_cons.mpr ⟨cv385 ghGd, (fun _ h => absurd h List.not_mem_nil)⟩)⟩)⟩))
set_option maxRecDepth 1000000 in
theorem tuC675 : tuGood 675 := tuSeg (cs := [ct387, ct388]) 73 (by decide +kernel) (fun {T} => (List.forall_mem_cons.mpr ⟨cv387 ghGd, (List.forall_mem_cons.mpr ⟨cv388 ghGd, (fun _ h => absurd h List.not_mem_nil)⟩)⟩))
set_option maxRecDepth 1000000 in
theorem tuC688 : tuGood 688 := tuSeg (cs := [ct390, ct391]) 107 (by decide +kernel) (fun {T} => (List.forall_mem_cons.mpr ⟨cv390 ghGd, (List.forall_mem_cons.mpr ⟨cv391 ghGd, (fun _ h => absurd h List.not_mem_nil)⟩)⟩))
set_option maxRecDepth 1000000 in
theorem tuC745 : tuGood 745 := tuSeg (cs := []) 343 (by decide +kernel) (fun {T} => (fun _ h => absurd h List.not_mem_nil))
set_option maxRecDepth 1000000 in
theorem tuC770 : tuGood 770 := tuSeg (cs := []) 299 (by decide +kernel) (fun {T} => (fun _ h => absurd h List.not_mem_nil))
set_option maxRecDepth 1000000 in
theorem tuC798 : tuGood 798 := tuSeg (cs := [ct393, ct392]) 268 (by decide +kernel) (fun {T} => (List.forall_mem_cons.mpr ⟨cv393 ghGd, (List.forall_mem_cons.mpr ⟨cv392 ghGd, (fun _ h => absurd h List.not_mem_nil)⟩)⟩))
set_option maxRecDepth 1000000 in
theorem tuC826 : tuGood 826 := tuSeg (cs := [ct523, ct524, ct612, ct525]) 684 (by decide +kernel) (fun {T} => (List.forall_mem_cons.mpr ⟨cv523 ghGd, (List.forall_mem_cons.mpr ⟨cv524 ghGd, (List.forall_mem_cons.mpr ⟨cv612 ghGd, (List.forall_mem_cons.mpr ⟨cv525 ghGd, (fun _ h => absurd h List.not_mem_nil)⟩)⟩)⟩)⟩))
set_option maxRecDepth 1000000 in
theorem tuC854 : tuGood 854 := tuSeg (cs := [ct613, ct616, ct614, ct615]) 149 (by decide +kernel) (fun {T} => (List.forall_mem_cons.mpr ⟨cv613 ghGd, (List.forall_mem_cons.mpr ⟨cv616 ghGd, (List.forall_mem_cons.mpr ⟨cv614 ghGd, (List.forall_mem_cons.mpr ⟨cv615 ghGd, (fun _ h => absurd h List.not_mem_nil)⟩)⟩)⟩)⟩))
set_option maxRecDepth 1000000 in
theorem tuC894 : tuGood 894 := tuSeg (cs := [ct622, ct626, ct625]) 111 (by decide +kernel) (fun {T} => (List.forall_mem_cons.mpr ⟨cv622 ghGd, (List.forall_mem_cons.mpr ⟨cv626 ghGd, (List.forall_mem_cons.mpr ⟨cv625 ghGd, (fun _ h => absurd h List.not_mem_nil)⟩)⟩)⟩))
set_option maxRecDepth 1000000 in
theorem tuC922 : tuGood 922 := tuSeg (cs := [ct630, ct631]) 73 (by decide +kernel) (fun {T} => (List.forall_mem_cons.mpr ⟨cv630 ghGd, (List.forall_mem_cons.mpr ⟨cv631 ghGd, (fun _ h => absurd h List.not_mem_nil)⟩)⟩))
set_option maxRecDepth 1000000 in
theorem tuC935 : tuGood 935 := tuSeg (cs := [ct904, ct1025, ct1026]) 128 (by decide +kernel) (fun {T} => (List.forall_mem_cons.mpr ⟨cv904 ghGd, (List.forall_mem_cons.mpr ⟨cv1025 ghGd, (List.forall_mem_cons.mpr ⟨cv1026 ghGd, (fun _ h => absurd h List.not_mem_nil)⟩)⟩)⟩))
set_option maxRecDepth 1000000 in
theorem tuC963 : tuGood 963 := tuSeg (cs := [ct896, ct897, ct898, ct772, ct899, ct900, ct776, ct901, ct902, ct903, ct811, ct815, ct850, ct854, ct733, ct737, ct889, ct893, ct894, ct895, ct1049, ct1051, ct1052, ct1053, ct1054, ct1050, ct1028, ct1027]) 1027 (by decide +kernel) (fun {T} => (List.forall_mem_cons.mpr ⟨cv896 ghGd, (List.forall_mem_cons.mpr ⟨cv897 ghGd, (List.forall_mem_cons.mpr ⟨cv898 ghGd, (List.forall_mem_cons.mpr ⟨cv772 ghGd, (List.forall_mem_cons.mpr ⟨cv899 ghGd, (List.forall_mem_cons.mpr ⟨cv900 ghGd, (List.forall_mem_cons.mpr ⟨cv776 ghGd, (List.forall_mem_cons.mpr ⟨cv901 ghGd, (List.forall_mem_cons.mpr ⟨cv902 ghGd, (List.forall_mem_cons.mpr ⟨cv903 ghGd, (List.forall_mem_cons.mpr ⟨cv811 ghGd, (List.forall_mem_cons.mpr ⟨cv815 ghGd, (List.forall_mem_cons.mpr ⟨cv850 ghGd, (List.forall_mem_cons.mpr ⟨cv854 ghGd, (List.forall_mem_cons.mpr ⟨cv733 ghGd, (List.forall_mem_cons.mpr ⟨cv737 ghGd, (List.forall_mem_cons.mpr ⟨cv889 ghGd, (List.forall_mem_cons.mpr ⟨cv893 ghGd, (List.forall_mem_cons.mpr ⟨cv894 ghGd, (List.forall_mem_cons.mpr ⟨cv895 ghGd, (List.forall_mem_cons.mpr ⟨cv1049 ghGd, (List.forall_mem_cons.mpr ⟨cv1051 ghGd, (List.forall_mem_cons.mpr ⟨cv1052 ghGd, (List.forall_mem_cons.mpr ⟨cv1053 ghGd, (List.forall_mem_cons.mpr ⟨cv1054 ghGd, (List.forall_mem_cons.mpr ⟨cv1050 ghGd, (List.forall_mem_cons.mpr ⟨cv1028 ghGd, (List.forall_mem_cons.mpr ⟨cv1027 ghGd, (fun _ h => absurd h List.not_mem_nil)⟩)⟩)⟩)⟩)⟩)⟩)⟩)⟩)⟩)⟩)⟩)⟩)⟩)⟩)⟩)⟩)⟩)⟩)⟩)⟩)⟩)⟩)⟩)⟩)⟩)⟩)⟩)⟩))
set_option maxRecDepth 1000000 in
theorem tuC991 : tuGood 991 := tuSeg (cs := [ct1061, ct1062]) 95 (by decide +kernel) (fun {T} => (List.forall_mem_cons.mpr ⟨cv1061 ghGd, (List.forall_mem_cons.mpr ⟨cv1062 ghGd, (fun _ h => absurd h List.not_mem_nil)⟩)⟩))
set_option maxRecDepth 1000000 in
theorem tuC1007 : tuGood 1007 := tuSeg (cs := [ct617, ct621, ct623]) 2423 (by decide +kernel) (fun {T} => (List.forall_mem_cons.mpr ⟨cv617 ghGd, (List.forall_mem_cons.mpr ⟨cv621 ghGd, (List.forall_mem_cons.mpr ⟨cv623 ghGd, (fun _ h => absurd h List.not_mem_nil)⟩)⟩)⟩))
set_option maxRecDepth 1000000 in
theorem tuC1047 : tuGood 1047 := tuSeg (cs := [ct1099, ct1179, ct1178]) 127 (by decide +kernel) (fun {T} => (List.forall_mem_cons.mpr ⟨cv1099 ghGd, (List.forall_mem_cons.mpr ⟨cv1179 ghGd, (List.forall_mem_cons.mpr ⟨cv1178 ghGd, (fun _ h => absurd h List.not_mem_nil)⟩)⟩)⟩))
set_option maxRecDepth 1000000 in
theorem tuC1087 : tuGood 1087 := tuSeg (cs := [ct1063, ct1098, ct1181, ct1182, ct1180]) 231 (by decide +kernel) (fun {T} => (List.forall_mem_cons.mpr ⟨cv1063 ghGd, (List.forall_mem_cons.mpr ⟨cv1098 ghGd, (List.forall_mem_cons.mpr ⟨cv1181 ghGd, (List.forall_mem_cons.mpr ⟨cv1182 ghGd, (List.forall_mem_cons.mpr ⟨cv1180 ghGd, (fun _ h => absurd h List.not_mem_nil)⟩)⟩)⟩)⟩)⟩))
set_option maxRecDepth 1000000 in
theorem tuC1127 : tuGood 1127 := tuSeg (cs := [ct1063, ct1098, ct1184, ct1185, ct1183]) 207 (by decide +kernel) (fun {T} => (List.forall_mem_cons.mpr ⟨cv1063 ghGd, (List.forall_mem_cons.mpr ⟨cv1098 ghGd, (List.forall_mem_cons.mpr ⟨cv1184 ghGd, (List.forall_mem_cons.mpr ⟨cv1185 ghGd, (List.forall_mem_cons.mpr ⟨cv1183 ghGd, (fun _ h => absurd h List.not_mem_nil)⟩)⟩)⟩)⟩)⟩))
set_option maxRecDepth 1000000 in
theorem tuC1155 : tuGood 1155 := tuSeg (cs := [ct1186, ct1194, ct1193]) 127 (by decide +kernel) (fun {T} => (List.forall_mem_cons.mpr ⟨cv1186 ghGd, (List.forall_mem_cons.mpr ⟨cv1194 ghGd, (List.forall_mem_cons.mpr ⟨cv1193 ghGd, (fun _ h => absurd h List.not_mem_nil)⟩)⟩)⟩))
set_option maxRecDepth 1000000 in
theorem tuC1195 : tuGood 1195 := tuSeg (cs := [ct1231, ct1233, ct1232]) 111 (by decide +kernel) (fun {T} => (List.forall_mem_cons.mpr ⟨cv1231 ghGd, (List.forall_mem_cons.mpr ⟨cv1233 ghGd, (List.forall_mem_cons.mpr ⟨cv1232 ghGd, (fun _ h => absurd h List.not_mem_nil)⟩)⟩)⟩))
set_option maxRecDepth 1000000 in
theorem tuC1223 : tuGood 1223 := tuSeg (cs := [ct1290, ct1307, ct1306]) 111 (by decide +kernel) (fun {T} => (List.forall_mem_cons.mpr ⟨cv1290 ghGd, (List.forall_mem_cons.mpr ⟨cv1307 ghGd, (List.forall_mem_cons.mpr ⟨cv1306 ghGd, (fun _ h => absurd h List.not_mem_nil)⟩)⟩)⟩))
end SXL
