theorem ac_I : Cond.arrayClass .int ∈ xT := xT_mem (List.mem_append_right _ (List.mem_of_getElem? (i := 60) (by decide +kernel))) (by decide +kernel)
theorem ac_J : Cond.arrayClass .long ∈ xT := xT_mem (List.mem_append_right _ (List.mem_of_getElem? (i := 140) (by decide +kernel))) (by decide +kernel)
theorem ac_Z : Cond.arrayClass .boolean ∈ xT := xT_mem (List.mem_append_right _ (List.mem_of_getElem? (i := 139) (by decide +kernel))) (by decide +kernel)
theorem ci_X12_45 : Cond.constantLong RX12 45 (81387) ∈ xT := xT_mem (List.mem_append_right _ (List.mem_of_getElem? (i := 1104) (by decide +kernel))) (by decide +kernel)
theorem ci_X12_47 : Cond.constantLong RX12 47 (370116) ∈ xT := xT_mem (List.mem_append_right _ (List.mem_of_getElem? (i := 1105) (by decide +kernel))) (by decide +kernel)
theorem ci_X12_49 : Cond.constantLong RX12 49 (24627848) ∈ xT := xT_mem (List.mem_append_right _ (List.mem_of_getElem? (i := 1106) (by decide +kernel))) (by decide +kernel)
theorem ci_X12_51 : Cond.constantLong RX12 51 (1253) ∈ xT := xT_mem (List.mem_append_right _ (List.mem_of_getElem? (i := 1107) (by decide +kernel))) (by decide +kernel)
theorem ci_X12_53 : Cond.constantLong RX12 53 (17376357) ∈ xT := xT_mem (List.mem_append_right _ (List.mem_of_getElem? (i := 1108) (by decide +kernel))) (by decide +kernel)
theorem ci_X12_55 : Cond.constantLong RX12 55 (17171557) ∈ xT := xT_mem (List.mem_append_right _ (List.mem_of_getElem? (i := 1109) (by decide +kernel))) (by decide +kernel)
theorem ci_X12_57 : Cond.constantLong RX12 57 (758955) ∈ xT := xT_mem (List.mem_append_right _ (List.mem_of_getElem? (i := 1110) (by decide +kernel))) (by decide +kernel)
theorem ci_X12_59 : Cond.constantLong RX12 59 (591150) ∈ xT := xT_mem (List.mem_append_right _ (List.mem_of_getElem? (i := 1111) (by decide +kernel))) (by decide +kernel)
theorem ci_X12_61 : Cond.constantLong RX12 61 (3751652) ∈ xT := xT_mem (List.mem_append_right _ (List.mem_of_getElem? (i := 1112) (by decide +kernel))) (by decide +kernel)
theorem ci_X12_63 : Cond.constantLong RX12 63 (20232293) ∈ xT := xT_mem (List.mem_append_right _ (List.mem_of_getElem? (i := 1113) (by decide +kernel))) (by decide +kernel)
theorem ci_X12_69 : Cond.constantLong RX12 69 (20099475) ∈ xT := xT_mem (List.mem_append_right _ (List.mem_of_getElem? (i := 1114) (by decide +kernel))) (by decide +kernel)
theorem ci_X12_71 : Cond.constantLong RX12 71 (4785907) ∈ xT := xT_mem (List.mem_append_right _ (List.mem_of_getElem? (i := 1115) (by decide +kernel))) (by decide +kernel)
theorem ci_X12_73 : Cond.constantLong RX12 73 (24165011) ∈ xT := xT_mem (List.mem_append_right _ (List.mem_of_getElem? (i := 1116) (by decide +kernel))) (by decide +kernel)
theorem ci_X12_75 : Cond.constantLong RX12 75 (21015731) ∈ xT := xT_mem (List.mem_append_right _ (List.mem_of_getElem? (i := 1117) (by decide +kernel))) (by decide +kernel)
theorem fi_X0_11 : xF RX0 11 0 1 (.array .int) := ⟨RX0, TX0, 5, tyX0, rfl, by decide, inX0, Or.inl (xT_mem (List.mem_append_right _ (List.mem_of_getElem? (i := 119) (by decide +kernel))) (by decide +kernel)), rfl, tyX0_ok, nmX0, rfl⟩
theorem fi_X0_17 : xF RX0 17 0 2 (.array .long) := ⟨RX0, TX0, 5, tyX0, rfl, by decide, inX0, Or.inl (xT_mem (List.mem_append_right _ (List.mem_of_getElem? (i := 125) (by decide +kernel))) (by decide +kernel)), rfl, tyX0_ok, nmX0, rfl⟩
theorem fi_X0_21 : xF RX0 21 0 0 (.object "PencilPrice$Stock") := ⟨RX0, TX0, 5, tyX0, rfl, by decide, inX0, Or.inl (xT_mem (List.mem_append_right _ (List.mem_of_getElem? (i := 118) (by decide +kernel))) (by decide +kernel)), rfl, tyX0_ok, nmX0, rfl⟩
theorem fi_X1_15 : xF RX1 15 1 3 (.array .int) := ⟨RX1, TX1, 10, tyX1, rfl, by decide, inX1, Or.inl (xT_mem (List.mem_append_right _ (List.mem_of_getElem? (i := 285) (by decide +kernel))) (by decide +kernel)), rfl, tyX1_ok, nmX1, rfl⟩
theorem fi_X1_18 : xF RX1 18 1 4 (.array .int) := ⟨RX1, TX1, 10, tyX1, rfl, by decide, inX1, Or.inl (xT_mem (List.mem_append_right _ (List.mem_of_getElem? (i := 286) (by decide +kernel))) (by decide +kernel)), rfl, tyX1_ok, nmX1, rfl⟩
theorem fi_X1_23 : xF RX1 23 1 5 (.array (.array .int)) := ⟨RX1, TX1, 10, tyX1, rfl, by decide, inX1, Or.inl (xT_mem (List.mem_append_right _ (List.mem_of_getElem? (i := 287) (by decide +kernel))) (by decide +kernel)), rfl, tyX1_ok, nmX1, rfl⟩
theorem fi_X1_26 : xF RX1 26 1 6 (.array (.array .int)) := ⟨RX1, TX1, 10, tyX1, rfl, by decide, inX1, Or.inl (xT_mem (List.mem_append_right _ (List.mem_of_getElem? (i := 288) (by decide +kernel))) (by decide +kernel)), rfl, tyX1_ok, nmX1, rfl⟩
theorem fi_X1_29 : xF RX1 29 1 0 (.object "PencilPrice$Stock") := ⟨RX1, TX1, 10, tyX1, rfl, by decide, inX1, Or.inl (xT_mem (List.mem_append_right _ (List.mem_of_getElem? (i := 282) (by decide +kernel))) (by decide +kernel)), rfl, tyX1_ok, nmX1, rfl⟩
theorem fi_X1_33 : xF RX1 33 1 1 (.object "PencilPrice$Asker") := ⟨RX1, TX1, 10, tyX1, rfl, by decide, inX1, Or.inl (xT_mem (List.mem_append_right _ (List.mem_of_getElem? (i := 283) (by decide +kernel))) (by decide +kernel)), rfl, tyX1_ok, nmX1, rfl⟩
theorem fi_X1_9 : xF RX1 9 1 2 (.array .int) := ⟨RX1, TX1, 10, tyX1, rfl, by decide, inX1, Or.inl (xT_mem (List.mem_append_right _ (List.mem_of_getElem? (i := 284) (by decide +kernel))) (by decide +kernel)), rfl, tyX1_ok, nmX1, rfl⟩
theorem fi_X10_17 : xF RX10 17 10 3 (.array (.array .long)) := ⟨RX10, TX10, 6, tyX10, rfl, by decide, inX10, Or.inl (xT_mem (List.mem_append_right _ (List.mem_of_getElem? (i := 207) (by decide +kernel))) (by decide +kernel)), rfl, tyX10_ok, nmX10, rfl⟩
theorem fi_X10_20 : xF RX10 20 10 4 (.array .long) := ⟨RX10, TX10, 6, tyX10, rfl, by decide, inX10, Or.inl (xT_mem (List.mem_append_right _ (List.mem_of_getElem? (i := 208) (by decide +kernel))) (by decide +kernel)), rfl, tyX10_ok, nmX10, rfl⟩
theorem fi_X10_24 : xF RX10 24 10 5 (.array .int) := ⟨RX10, TX10, 6, tyX10, rfl, by decide, inX10, Or.inl (xT_mem (List.mem_append_right _ (List.mem_of_getElem? (i := 209) (by decide +kernel))) (by decide +kernel)), rfl, tyX10_ok, nmX10, rfl⟩
theorem fi_X10_27 : xF RX10 27 10 0 (.object "PencilPrice$Stock") := ⟨RX10, TX10, 6, tyX10, rfl, by decide, inX10, Or.inl (xT_mem (List.mem_append_right _ (List.mem_of_getElem? (i := 204) (by decide +kernel))) (by decide +kernel)), rfl, tyX10_ok, nmX10, rfl⟩
theorem fi_X10_31 : xF RX10 31 10 1 (.object "PencilPrice$Asker") := ⟨RX10, TX10, 6, tyX10, rfl, by decide, inX10, Or.inl (xT_mem (List.mem_append_right _ (List.mem_of_getElem? (i := 205) (by decide +kernel))) (by decide +kernel)), rfl, tyX10_ok, nmX10, rfl⟩
theorem fi_X10_9 : xF RX10 9 10 2 (.array .int) := ⟨RX10, TX10, 6, tyX10, rfl, by decide, inX10, Or.inl (xT_mem (List.mem_append_right _ (List.mem_of_getElem? (i := 206) (by decide +kernel))) (by decide +kernel)), rfl, tyX10_ok, nmX10, rfl⟩
theorem fi_X11_10 : xF RX11 10 11 0 (.object "PencilPrice$Stock") := ⟨RX11, TX11, 16, tyX11, rfl, by decide, inX11, Or.inl (xT_mem (List.mem_append_right _ (List.mem_of_getElem? (i := 349) (by decide +kernel))) (by decide +kernel)), rfl, tyX11_ok, nmX11, rfl⟩
theorem fi_X11_16 : xF RX11 16 11 1 (.array (.object "PencilPrice$Stock")) := ⟨RX11, TX11, 16, tyX11, rfl, by decide, inX11, Or.inl (xT_mem (List.mem_append_right _ (List.mem_of_getElem? (i := 350) (by decide +kernel))) (by decide +kernel)), rfl, tyX11_ok, nmX11, rfl⟩
theorem fi_X11_20 : xF RX11 20 11 2 (.array .boolean) := ⟨RX11, TX11, 16, tyX11, rfl, by decide, inX11, Or.inl (xT_mem (List.mem_append_right _ (List.mem_of_getElem? (i := 351) (by decide +kernel))) (by decide +kernel)), rfl, tyX11_ok, nmX11, rfl⟩
theorem fi_X11_29 : xF RX11 29 11 3 (.object "PencilPrice$Asker") := ⟨RX11, TX11, 16, tyX11, rfl, by decide, inX11, Or.inl (xT_mem (List.mem_append_right _ (List.mem_of_getElem? (i := 352) (by decide +kernel))) (by decide +kernel)), rfl, tyX11_ok, nmX11, rfl⟩
theorem fi_X11_36 : xF RX11 36 11 4 (.object "PencilPrice$Reader") := ⟨RX11, TX11, 16, tyX11, rfl, by decide, inX11, Or.inl (xT_mem (List.mem_append_right _ (List.mem_of_getElem? (i := 353) (by decide +kernel))) (by decide +kernel)), rfl, tyX11_ok, nmX11, rfl⟩
theorem fi_X11_45 : xF RX11 45 11 5 (.object "PencilPrice$Writer") := ⟨RX11, TX11, 16, tyX11, rfl, by decide, inX11, Or.inl (xT_mem (List.mem_append_right _ (List.mem_of_getElem? (i := 354) (by decide +kernel))) (by decide +kernel)), rfl, tyX11_ok, nmX11, rfl⟩
theorem fi_X11_52 : xF RX11 52 11 6 (.object "PencilPrice$Tables") := ⟨RX11, TX11, 16, tyX11, rfl, by decide, inX11, Or.inl (xT_mem (List.mem_append_right _ (List.mem_of_getElem? (i := 355) (by decide +kernel))) (by decide +kernel)), rfl, tyX11_ok, nmX11, rfl⟩
theorem fi_X11_59 : xF RX11 59 11 7 (.object "PencilPrice$Keeper") := ⟨RX11, TX11, 16, tyX11, rfl, by decide, inX11, Or.inl (xT_mem (List.mem_append_right _ (List.mem_of_getElem? (i := 356) (by decide +kernel))) (by decide +kernel)), rfl, tyX11_ok, nmX11, rfl⟩
theorem fi_X11_66 : xF RX11 66 11 8 (.object "PencilPrice$Dealer") := ⟨RX11, TX11, 16, tyX11, rfl, by decide, inX11, Or.inl (xT_mem (List.mem_append_right _ (List.mem_of_getElem? (i := 357) (by decide +kernel))) (by decide +kernel)), rfl, tyX11_ok, nmX11, rfl⟩
theorem fi_X11_75 : xF RX11 75 11 9 (.object "PencilPrice$Diary") := ⟨RX11, TX11, 16, tyX11, rfl, by decide, inX11, Or.inl (xT_mem (List.mem_append_right _ (List.mem_of_getElem? (i := 358) (by decide +kernel))) (by decide +kernel)), rfl, tyX11_ok, nmX11, rfl⟩
theorem fi_X11_79 : xF RX11 79 11 10 (.array .int) := ⟨RX11, TX11, 16, tyX11, rfl, by decide, inX11, Or.inl (xT_mem (List.mem_append_right _ (List.mem_of_getElem? (i := 359) (by decide +kernel))) (by decide +kernel)), rfl, tyX11_ok, nmX11, rfl⟩
theorem fi_X11_83 : xF RX11 83 11 12 .int := ⟨RX11, TX11, 16, tyX11, rfl, by decide, inX11, Or.inl (xT_mem (List.mem_append_right _ (List.mem_of_getElem? (i := 361) (by decide +kernel))) (by decide +kernel)), rfl, tyX11_ok, nmX11, rfl⟩
theorem fi_X11_87 : xF RX11 87 11 15 (.array .int) := ⟨RX11, TX11, 16, tyX11, rfl, by decide, inX11, Or.inl (xT_mem (List.mem_append_right _ (List.mem_of_getElem? (i := 364) (by decide +kernel))) (by decide +kernel)), rfl, tyX11_ok, nmX11, rfl⟩
theorem fi_X12_101 : xF RX12 101 12 42 (.array .int) := ⟨RX12, TX12, 46, tyX12, rfl, by decide, inX12, Or.inl (xT_mem (List.mem_append_right _ (List.mem_of_getElem? (i := 1160) (by decide +kernel))) (by decide +kernel)), rfl, tyX12_ok, nmX12, rfl⟩
theorem fi_X12_104 : xF RX12 104 12 43 (.array .int) := ⟨RX12, TX12, 46, tyX12, rfl, by decide, inX12, Or.inl (xT_mem (List.mem_append_right _ (List.mem_of_getElem? (i := 1161) (by decide +kernel))) (by decide +kernel)), rfl, tyX12_ok, nmX12, rfl⟩
theorem fi_X12_13 : xF RX12 13 12 3 (.array .int) := ⟨RX12, TX12, 46, tyX12, rfl, by decide, inX12, Or.inl (xT_mem (List.mem_append_right _ (List.mem_of_getElem? (i := 1121) (by decide +kernel))) (by decide +kernel)), rfl, tyX12_ok, nmX12, rfl⟩
theorem fi_X12_16 : xF RX12 16 12 4 (.array .int) := ⟨RX12, TX12, 46, tyX12, rfl, by decide, inX12, Or.inl (xT_mem (List.mem_append_right _ (List.mem_of_getElem? (i := 1122) (by decide +kernel))) (by decide +kernel)), rfl, tyX12_ok, nmX12, rfl⟩
theorem fi_X12_19 : xF RX12 19 12 5 (.array .boolean) := ⟨RX12, TX12, 46, tyX12, rfl, by decide, inX12, Or.inl (xT_mem (List.mem_append_right _ (List.mem_of_getElem? (i := 1123) (by decide +kernel))) (by decide +kernel)), rfl, tyX12_ok, nmX12, rfl⟩
theorem fi_X12_23 : xF RX12 23 12 7 (.array .int) := ⟨RX12, TX12, 46, tyX12, rfl, by decide, inX12, Or.inl (xT_mem (List.mem_append_right _ (List.mem_of_getElem? (i := 1125) (by decide +kernel))) (by decide +kernel)), rfl, tyX12_ok, nmX12, rfl⟩
theorem fi_X12_26 : xF RX12 26 12 13 .int := ⟨RX12, TX12, 46, tyX12, rfl, by decide, inX12, Or.inl (xT_mem (List.mem_append_right _ (List.mem_of_getElem? (i := 1131) (by decide +kernel))) (by decide +kernel)), rfl, tyX12_ok, nmX12, rfl⟩
theorem fi_X12_30 : xF RX12 30 12 16 (.array .int) := ⟨RX12, TX12, 46, tyX12, rfl, by decide, inX12, Or.inl (xT_mem (List.mem_append_right _ (List.mem_of_getElem? (i := 1134) (by decide +kernel))) (by decide +kernel)), rfl, tyX12_ok, nmX12, rfl⟩
theorem fi_X12_33 : xF RX12 33 12 18 (.array .int) := ⟨RX12, TX12, 46, tyX12, rfl, by decide, inX12, Or.inl (xT_mem (List.mem_append_right _ (List.mem_of_getElem? (i := 1136) (by decide +kernel))) (by decide +kernel)), rfl, tyX12_ok, nmX12, rfl⟩
theorem fi_X12_36 : xF RX12 36 12 19 (.array .int) := ⟨RX12, TX12, 46, tyX12, rfl, by decide, inX12, Or.inl (xT_mem (List.mem_append_right _ (List.mem_of_getElem? (i := 1137) (by decide +kernel))) (by decide +kernel)), rfl, tyX12_ok, nmX12, rfl⟩
theorem fi_X12_39 : xF RX12 39 12 21 (.array .int) := ⟨RX12, TX12, 46, tyX12, rfl, by decide, inX12, Or.inl (xT_mem (List.mem_append_right _ (List.mem_of_getElem? (i := 1139) (by decide +kernel))) (by decide +kernel)), rfl, tyX12_ok, nmX12, rfl⟩
theorem fi_X12_42 : xF RX12 42 12 22 (.array .int) := ⟨RX12, TX12, 46, tyX12, rfl, by decide, inX12, Or.inl (xT_mem (List.mem_append_right _ (List.mem_of_getElem? (i := 1140) (by decide +kernel))) (by decide +kernel)), rfl, tyX12_ok, nmX12, rfl⟩
theorem fi_X12_65 : xF RX12 65 12 25 (.array .long) := ⟨RX12, TX12, 46, tyX12, rfl, by decide, inX12, Or.inl (xT_mem (List.mem_append_right _ (List.mem_of_getElem? (i := 1143) (by decide +kernel))) (by decide +kernel)), rfl, tyX12_ok, nmX12, rfl⟩
theorem fi_X12_7 : xF RX12 7 12 2 (.array .int) := ⟨RX12, TX12, 46, tyX12, rfl, by decide, inX12, Or.inl (xT_mem (List.mem_append_right _ (List.mem_of_getElem? (i := 1120) (by decide +kernel))) (by decide +kernel)), rfl, tyX12_ok, nmX12, rfl⟩
theorem fi_X12_77 : xF RX12 77 12 26 (.array .long) := ⟨RX12, TX12, 46, tyX12, rfl, by decide, inX12, Or.inl (xT_mem (List.mem_append_right _ (List.mem_of_getElem? (i := 1144) (by decide +kernel))) (by decide +kernel)), rfl, tyX12_ok, nmX12, rfl⟩
theorem fi_X12_80 : xF RX12 80 12 28 (.array .long) := ⟨RX12, TX12, 46, tyX12, rfl, by decide, inX12, Or.inl (xT_mem (List.mem_append_right _ (List.mem_of_getElem? (i := 1146) (by decide +kernel))) (by decide +kernel)), rfl, tyX12_ok, nmX12, rfl⟩
theorem fi_X12_83 : xF RX12 83 12 29 (.array .long) := ⟨RX12, TX12, 46, tyX12, rfl, by decide, inX12, Or.inl (xT_mem (List.mem_append_right _ (List.mem_of_getElem? (i := 1147) (by decide +kernel))) (by decide +kernel)), rfl, tyX12_ok, nmX12, rfl⟩
theorem fi_X12_86 : xF RX12 86 12 36 (.array .long) := ⟨RX12, TX12, 46, tyX12, rfl, by decide, inX12, Or.inl (xT_mem (List.mem_append_right _ (List.mem_of_getElem? (i := 1154) (by decide +kernel))) (by decide +kernel)), rfl, tyX12_ok, nmX12, rfl⟩
theorem fi_X12_89 : xF RX12 89 12 37 (.array .int) := ⟨RX12, TX12, 46, tyX12, rfl, by decide, inX12, Or.inl (xT_mem (List.mem_append_right _ (List.mem_of_getElem? (i := 1155) (by decide +kernel))) (by decide +kernel)), rfl, tyX12_ok, nmX12, rfl⟩
theorem fi_X12_92 : xF RX12 92 12 38 (.array .int) := ⟨RX12, TX12, 46, tyX12, rfl, by decide, inX12, Or.inl (xT_mem (List.mem_append_right _ (List.mem_of_getElem? (i := 1156) (by decide +kernel))) (by decide +kernel)), rfl, tyX12_ok, nmX12, rfl⟩
theorem fi_X12_95 : xF RX12 95 12 39 (.array .int) := ⟨RX12, TX12, 46, tyX12, rfl, by decide, inX12, Or.inl (xT_mem (List.mem_append_right _ (List.mem_of_getElem? (i := 1157) (by decide +kernel))) (by decide +kernel)), rfl, tyX12_ok, nmX12, rfl⟩
theorem fi_X12_98 : xF RX12 98 12 40 (.array .int) := ⟨RX12, TX12, 46, tyX12, rfl, by decide, inX12, Or.inl (xT_mem (List.mem_append_right _ (List.mem_of_getElem? (i := 1158) (by decide +kernel))) (by decide +kernel)), rfl, tyX12_ok, nmX12, rfl⟩
theorem fi_X2_15 : xF RX2 15 2 4 (.array .int) := ⟨RX2, TX2, 7, tyX2, rfl, by decide, inX2, Or.inl (xT_mem (List.mem_append_right _ (List.mem_of_getElem? (i := 330) (by decide +kernel))) (by decide +kernel)), rfl, tyX2_ok, nmX2, rfl⟩
theorem fi_X2_18 : xF RX2 18 2 0 (.object "PencilPrice$Stock") := ⟨RX2, TX2, 7, tyX2, rfl, by decide, inX2, Or.inl (xT_mem (List.mem_append_right _ (List.mem_of_getElem? (i := 325) (by decide +kernel))) (by decide +kernel)), rfl, tyX2_ok, nmX2, rfl⟩
theorem fi_X2_22 : xF RX2 22 2 1 (.object "PencilPrice$Asker") := ⟨RX2, TX2, 7, tyX2, rfl, by decide, inX2, Or.inl (xT_mem (List.mem_append_right _ (List.mem_of_getElem? (i := 326) (by decide +kernel))) (by decide +kernel)), rfl, tyX2_ok, nmX2, rfl⟩
theorem fi_X2_26 : xF RX2 26 2 2 (.object "PencilPrice$Dealer") := ⟨RX2, TX2, 7, tyX2, rfl, by decide, inX2, Or.inl (xT_mem (List.mem_append_right _ (List.mem_of_getElem? (i := 327) (by decide +kernel))) (by decide +kernel)), rfl, tyX2_ok, nmX2, rfl⟩
theorem fi_X2_9 : xF RX2 9 2 3 (.array .int) := ⟨RX2, TX2, 7, tyX2, rfl, by decide, inX2, Or.inl (xT_mem (List.mem_append_right _ (List.mem_of_getElem? (i := 328) (by decide +kernel))) (by decide +kernel)), rfl, tyX2_ok, nmX2, rfl⟩
theorem fi_X3_11 : xF RX3 11 3 2 (.array (.array .int)) := ⟨RX3, TX3, 4, tyX3, rfl, by decide, inX3, Or.inl (xT_mem (List.mem_append_right _ (List.mem_of_getElem? (i := 264) (by decide +kernel))) (by decide +kernel)), rfl, tyX3_ok, nmX3, rfl⟩
theorem fi_X3_16 : xF RX3 16 3 3 (.array (.array .int)) := ⟨RX3, TX3, 4, tyX3, rfl, by decide, inX3, Or.inl (xT_mem (List.mem_append_right _ (List.mem_of_getElem? (i := 265) (by decide +kernel))) (by decide +kernel)), rfl, tyX3_ok, nmX3, rfl⟩
theorem fi_X3_19 : xF RX3 19 3 0 (.object "PencilPrice$Stock") := ⟨RX3, TX3, 4, tyX3, rfl, by decide, inX3, Or.inl (xT_mem (List.mem_append_right _ (List.mem_of_getElem? (i := 262) (by decide +kernel))) (by decide +kernel)), rfl, tyX3_ok, nmX3, rfl⟩
theorem fi_X3_23 : xF RX3 23 3 1 (.object "PencilPrice$Asker") := ⟨RX3, TX3, 4, tyX3, rfl, by decide, inX3, Or.inl (xT_mem (List.mem_append_right _ (List.mem_of_getElem? (i := 263) (by decide +kernel))) (by decide +kernel)), rfl, tyX3_ok, nmX3, rfl⟩
theorem fi_X5_12 : xF RX5 12 5 0 (.object "PencilPrice$Tokens") := ⟨RX5, TX5, 8, tyX5, rfl, by decide, inX5, Or.inl (xT_mem (List.mem_append_right _ (List.mem_of_getElem? (i := 170) (by decide +kernel))) (by decide +kernel)), rfl, tyX5_ok, nmX5, rfl⟩
theorem fi_X5_18 : xF RX5 18 5 1 (.array .int) := ⟨RX5, TX5, 8, tyX5, rfl, by decide, inX5, Or.inl (xT_mem (List.mem_append_right _ (List.mem_of_getElem? (i := 171) (by decide +kernel))) (by decide +kernel)), rfl, tyX5_ok, nmX5, rfl⟩
theorem fi_X5_22 : xF RX5 22 5 2 (.array .int) := ⟨RX5, TX5, 8, tyX5, rfl, by decide, inX5, Or.inl (xT_mem (List.mem_append_right _ (List.mem_of_getElem? (i := 172) (by decide +kernel))) (by decide +kernel)), rfl, tyX5_ok, nmX5, rfl⟩
theorem fi_X5_25 : xF RX5 25 5 3 (.array .int) := ⟨RX5, TX5, 8, tyX5, rfl, by decide, inX5, Or.inl (xT_mem (List.mem_append_right _ (List.mem_of_getElem? (i := 173) (by decide +kernel))) (by decide +kernel)), rfl, tyX5_ok, nmX5, rfl⟩
theorem fi_X5_28 : xF RX5 28 5 7 .int := ⟨RX5, TX5, 8, tyX5, rfl, by decide, inX5, Or.inl (xT_mem (List.mem_append_right _ (List.mem_of_getElem? (i := 177) (by decide +kernel))) (by decide +kernel)), rfl, tyX5_ok, nmX5, rfl⟩
theorem fi_X6_15 : xF RX6 15 6 1 .int := ⟨RX6, TX6, 4, tyX6, rfl, by decide, inX6, Or.inl (xT_mem (List.mem_append_right _ (List.mem_of_getElem? (i := 43) (by decide +kernel))) (by decide +kernel)), rfl, tyX6_ok, nmX6, rfl⟩
theorem fi_X6_18 : xF RX6 18 6 2 (.array .int) := ⟨RX6, TX6, 4, tyX6, rfl, by decide, inX6, Or.inl (xT_mem (List.mem_append_right _ (List.mem_of_getElem? (i := 44) (by decide +kernel))) (by decide +kernel)), rfl, tyX6_ok, nmX6, rfl⟩
theorem fi_X6_9 : xF RX6 9 6 0 .int := ⟨RX6, TX6, 4, tyX6, rfl, by decide, inX6, Or.inl (xT_mem (List.mem_append_right _ (List.mem_of_getElem? (i := 42) (by decide +kernel))) (by decide +kernel)), rfl, tyX6_ok, nmX6, rfl⟩
theorem fi_X7_14 : xF RX7 14 7 0 (.object "PencilPrice$Rows") := ⟨RX7, TX7, 9, tyX7, rfl, by decide, inX7, Or.inl (xT_mem (List.mem_append_right _ (List.mem_of_getElem? (i := 63) (by decide +kernel))) (by decide +kernel)), rfl, tyX7_ok, nmX7, rfl⟩
theorem fi_X7_20 : xF RX7 20 7 1 (.object "PencilPrice$Rows") := ⟨RX7, TX7, 9, tyX7, rfl, by decide, inX7, Or.inl (xT_mem (List.mem_append_right _ (List.mem_of_getElem? (i := 71) (by decide +kernel))) (by decide +kernel)), rfl, tyX7_ok, nmX7, rfl⟩
theorem fi_X7_23 : xF RX7 23 7 2 (.object "PencilPrice$Rows") := ⟨RX7, TX7, 9, tyX7, rfl, by decide, inX7, Or.inl (xT_mem (List.mem_append_right _ (List.mem_of_getElem? (i := 73) (by decide +kernel))) (by decide +kernel)), rfl, tyX7_ok, nmX7, rfl⟩
theorem fi_X7_26 : xF RX7 26 7 3 (.object "PencilPrice$Rows") := ⟨RX7, TX7, 9, tyX7, rfl, by decide, inX7, Or.inl (xT_mem (List.mem_append_right _ (List.mem_of_getElem? (i := 77) (by decide +kernel))) (by decide +kernel)), rfl, tyX7_ok, nmX7, rfl⟩
theorem fi_X7_29 : xF RX7 29 7 4 (.object "PencilPrice$Rows") := ⟨RX7, TX7, 9, tyX7, rfl, by decide, inX7, Or.inl (xT_mem (List.mem_append_right _ (List.mem_of_getElem? (i := 79) (by decide +kernel))) (by decide +kernel)), rfl, tyX7_ok, nmX7, rfl⟩
theorem fi_X7_32 : xF RX7 32 7 5 (.array .int) := ⟨RX7, TX7, 9, tyX7, rfl, by decide, inX7, Or.inl (xT_mem (List.mem_append_right _ (List.mem_of_getElem? (i := 81) (by decide +kernel))) (by decide +kernel)), rfl, tyX7_ok, nmX7, rfl⟩
theorem fi_X7_38 : xF RX7 38 7 6 (.array (.object "PencilPrice$Law")) := ⟨RX7, TX7, 9, tyX7, rfl, by decide, inX7, Or.inl (xT_mem (List.mem_append_right _ (List.mem_of_getElem? (i := 86) (by decide +kernel))) (by decide +kernel)), rfl, tyX7_ok, nmX7, rfl⟩
theorem fi_X7_42 : xF RX7 42 7 8 .int := ⟨RX7, TX7, 9, tyX7, rfl, by decide, inX7, Or.inl (xT_mem (List.mem_append_right _ (List.mem_of_getElem? (i := 90) (by decide +kernel))) (by decide +kernel)), rfl, tyX7_ok, nmX7, rfl⟩
theorem fi_X8_15 : xF RX8 15 8 3 (.array .int) := ⟨RX8, TX8, 7, tyX8, rfl, by decide, inX8, Or.inl (xT_mem (List.mem_append_right _ (List.mem_of_getElem? (i := 232) (by decide +kernel))) (by decide +kernel)), rfl, tyX8_ok, nmX8, rfl⟩
theorem fi_X8_18 : xF RX8 18 8 0 (.object "PencilPrice$Stock") := ⟨RX8, TX8, 7, tyX8, rfl, by decide, inX8, Or.inl (xT_mem (List.mem_append_right _ (List.mem_of_getElem? (i := 229) (by decide +kernel))) (by decide +kernel)), rfl, tyX8_ok, nmX8, rfl⟩
theorem fi_X8_22 : xF RX8 22 8 1 (.object "PencilPrice$Asker") := ⟨RX8, TX8, 7, tyX8, rfl, by decide, inX8, Or.inl (xT_mem (List.mem_append_right _ (List.mem_of_getElem? (i := 230) (by decide +kernel))) (by decide +kernel)), rfl, tyX8_ok, nmX8, rfl⟩
theorem fi_X8_9 : xF RX8 9 8 2 (.array .int) := ⟨RX8, TX8, 7, tyX8, rfl, by decide, inX8, Or.inl (xT_mem (List.mem_append_right _ (List.mem_of_getElem? (i := 231) (by decide +kernel))) (by decide +kernel)), rfl, tyX8_ok, nmX8, rfl⟩
theorem fi_X9_11 : xF RX9 11 9 0 (.array .int) := ⟨RX9, TX9, 4, tyX9, rfl, by decide, inX9, Or.inl (xT_mem (List.mem_append_right _ (List.mem_of_getElem? (i := 153) (by decide +kernel))) (by decide +kernel)), rfl, tyX9_ok, nmX9, rfl⟩
theorem fi_X9_15 : xF RX9 15 9 1 (.array .int) := ⟨RX9, TX9, 4, tyX9, rfl, by decide, inX9, Or.inl (xT_mem (List.mem_append_right _ (List.mem_of_getElem? (i := 155) (by decide +kernel))) (by decide +kernel)), rfl, tyX9_ok, nmX9, rfl⟩
theorem fi_X9_18 : xF RX9 18 9 2 (.array .int) := ⟨RX9, TX9, 4, tyX9, rfl, by decide, inX9, Or.inl (xT_mem (List.mem_append_right _ (List.mem_of_getElem? (i := 157) (by decide +kernel))) (by decide +kernel)), rfl, tyX9_ok, nmX9, rfl⟩
theorem wi_X2_30 : xMS RX2 30 yJA_fill2 cJA_fill2 4 none 2 := ⟨⟨Or.inl (xT_mem (List.mem_append_right _ (List.mem_of_getElem? (i := 322) (by decide +kernel))) (by decide +kernel)), xT_mem (List.mem_append_right _ (List.mem_of_getElem? (i := 12) (by decide +kernel))) (by decide +kernel), xT_mem (List.mem_append_right _ (List.mem_of_getElem? (i := 324) (by decide +kernel))) (by decide +kernel), ⟨by decide +kernel, by decide +kernel⟩, by decide +kernel⟩, xT_mem (List.mem_append_right _ (List.mem_of_getElem? (i := 323) (by decide +kernel))) (by decide +kernel)⟩
theorem kl_X1_21 : Cond.classLink RX1 21 "[[I" ∈ xT := xT_mem (List.mem_append_right _ (List.mem_of_getElem? (i := 281) (by decide +kernel))) (by decide +kernel)
theorem kl_X10_15 : Cond.classLink RX10 15 "[[J" ∈ xT := xT_mem (List.mem_append_right _ (List.mem_of_getElem? (i := 202) (by decide +kernel))) (by decide +kernel)
theorem kl_X11_7 : Cond.classLink RX11 7 "PencilPrice$Stock" ∈ xT := xT_mem (List.mem_append_right _ (List.mem_of_getElem? (i := 30) (by decide +kernel))) (by decide +kernel)
theorem kl_X3_9 : Cond.classLink RX3 9 "[[I" ∈ xT := xT_mem (List.mem_append_right _ (List.mem_of_getElem? (i := 260) (by decide +kernel))) (by decide +kernel)
theorem kl_X7_36 : Cond.classLink RX7 36 "PencilPrice$Law" ∈ xT := xT_mem (List.mem_append_right _ (List.mem_of_getElem? (i := 61) (by decide +kernel))) (by decide +kernel)
theorem mi_X11_26 : xMI RX11 26 yX0_init cX0_init 2 1 := ⟨⟨Or.inr ⟨"PencilPrice", xTN_mem (List.mem_append_right _ (List.mem_of_getElem? (i := 114) (by decide +kernel))) (by decide +kernel)⟩, xT_mem (List.mem_append_right _ (List.mem_of_getElem? (i := 4) (by decide +kernel))) (by decide +kernel), xT_mem (List.mem_append_right _ (List.mem_of_getElem? (i := 116) (by decide +kernel))) (by decide +kernel), ⟨by decide +kernel, by decide +kernel⟩, by decide +kernel⟩, xT_mem (List.mem_append_right _ (List.mem_of_getElem? (i := 115) (by decide +kernel))) (by decide +kernel), rfl⟩
theorem mi_X11_35 : xMI RX11 35 yX5_init cX5_init 1 0 := ⟨⟨Or.inr ⟨"PencilPrice", xTN_mem (List.mem_append_right _ (List.mem_of_getElem? (i := 143) (by decide +kernel))) (by decide +kernel)⟩, xT_mem (List.mem_append_right _ (List.mem_of_getElem? (i := 5) (by decide +kernel))) (by decide +kernel), xT_mem (List.mem_append_right _ (List.mem_of_getElem? (i := 145) (by decide +kernel))) (by decide +kernel), ⟨by decide +kernel, by decide +kernel⟩, by decide +kernel⟩, xT_mem (List.mem_append_right _ (List.mem_of_getElem? (i := 144) (by decide +kernel))) (by decide +kernel), rfl⟩
theorem mi_X11_42 : xMI RX11 42 yX10_init cX10_init 3 2 := ⟨⟨Or.inr ⟨"PencilPrice", xTN_mem (List.mem_append_right _ (List.mem_of_getElem? (i := 198) (by decide +kernel))) (by decide +kernel)⟩, xT_mem (List.mem_append_right _ (List.mem_of_getElem? (i := 7) (by decide +kernel))) (by decide +kernel), xT_mem (List.mem_append_right _ (List.mem_of_getElem? (i := 200) (by decide +kernel))) (by decide +kernel), ⟨by decide +kernel, by decide +kernel⟩, by decide +kernel⟩, xT_mem (List.mem_append_right _ (List.mem_of_getElem? (i := 199) (by decide +kernel))) (by decide +kernel), rfl⟩
theorem mi_X11_51 : xMI RX11 51 yX8_init cX8_init 3 2 := ⟨⟨Or.inr ⟨"PencilPrice", xTN_mem (List.mem_append_right _ (List.mem_of_getElem? (i := 225) (by decide +kernel))) (by decide +kernel)⟩, xT_mem (List.mem_append_right _ (List.mem_of_getElem? (i := 8) (by decide +kernel))) (by decide +kernel), xT_mem (List.mem_append_right _ (List.mem_of_getElem? (i := 227) (by decide +kernel))) (by decide +kernel), ⟨by decide +kernel, by decide +kernel⟩, by decide +kernel⟩, xT_mem (List.mem_append_right _ (List.mem_of_getElem? (i := 226) (by decide +kernel))) (by decide +kernel), rfl⟩
theorem mi_X11_58 : xMI RX11 58 yX3_init cX3_init 3 2 := ⟨⟨Or.inr ⟨"PencilPrice", xTN_mem (List.mem_append_right _ (List.mem_of_getElem? (i := 256) (by decide +kernel))) (by decide +kernel)⟩, xT_mem (List.mem_append_right _ (List.mem_of_getElem? (i := 9) (by decide +kernel))) (by decide +kernel), xT_mem (List.mem_append_right _ (List.mem_of_getElem? (i := 258) (by decide +kernel))) (by decide +kernel), ⟨by decide +kernel, by decide +kernel⟩, by decide +kernel⟩, xT_mem (List.mem_append_right _ (List.mem_of_getElem? (i := 257) (by decide +kernel))) (by decide +kernel), rfl⟩
theorem mi_X11_65 : xMI RX11 65 yX1_init cX1_init 3 2 := ⟨⟨Or.inr ⟨"PencilPrice", xTN_mem (List.mem_append_right _ (List.mem_of_getElem? (i := 277) (by decide +kernel))) (by decide +kernel)⟩, xT_mem (List.mem_append_right _ (List.mem_of_getElem? (i := 10) (by decide +kernel))) (by decide +kernel), xT_mem (List.mem_append_right _ (List.mem_of_getElem? (i := 279) (by decide +kernel))) (by decide +kernel), ⟨by decide +kernel, by decide +kernel⟩, by decide +kernel⟩, xT_mem (List.mem_append_right _ (List.mem_of_getElem? (i := 278) (by decide +kernel))) (by decide +kernel), rfl⟩
theorem mi_X11_72 : xMI RX11 72 yX2_init cX2_init 4 3 := ⟨⟨Or.inr ⟨"PencilPrice", xTN_mem (List.mem_append_right _ (List.mem_of_getElem? (i := 318) (by decide +kernel))) (by decide +kernel)⟩, xT_mem (List.mem_append_right _ (List.mem_of_getElem? (i := 11) (by decide +kernel))) (by decide +kernel), xT_mem (List.mem_append_right _ (List.mem_of_getElem? (i := 320) (by decide +kernel))) (by decide +kernel), ⟨by decide +kernel, by decide +kernel⟩, by decide +kernel⟩, xT_mem (List.mem_append_right _ (List.mem_of_getElem? (i := 319) (by decide +kernel))) (by decide +kernel), rfl⟩
theorem mi_X11_9 : xMI RX11 9 yX7_init cX7_init 1 0 := ⟨⟨Or.inr ⟨"PencilPrice", xTN_mem (List.mem_append_right _ (List.mem_of_getElem? (i := 32) (by decide +kernel))) (by decide +kernel)⟩, xT_mem (List.mem_append_right _ (List.mem_of_getElem? (i := 2) (by decide +kernel))) (by decide +kernel), xT_mem (List.mem_append_right _ (List.mem_of_getElem? (i := 34) (by decide +kernel))) (by decide +kernel), ⟨by decide +kernel, by decide +kernel⟩, by decide +kernel⟩, xT_mem (List.mem_append_right _ (List.mem_of_getElem? (i := 33) (by decide +kernel))) (by decide +kernel), rfl⟩
theorem mi_X5_11 : xMI RX5 11 yX9_init cX9_init 1 0 := ⟨⟨Or.inr ⟨"PencilPrice", xTN_mem (List.mem_append_right _ (List.mem_of_getElem? (i := 149) (by decide +kernel))) (by decide +kernel)⟩, xT_mem (List.mem_append_right _ (List.mem_of_getElem? (i := 6) (by decide +kernel))) (by decide +kernel), xT_mem (List.mem_append_right _ (List.mem_of_getElem? (i := 151) (by decide +kernel))) (by decide +kernel), ⟨by decide +kernel, by decide +kernel⟩, by decide +kernel⟩, xT_mem (List.mem_append_right _ (List.mem_of_getElem? (i := 150) (by decide +kernel))) (by decide +kernel), rfl⟩
theorem mi_X7_11 : xMI RX7 11 yX6_init cX6_init 3 2 := ⟨⟨Or.inr ⟨"PencilPrice", xTN_mem (List.mem_append_right _ (List.mem_of_getElem? (i := 38) (by decide +kernel))) (by decide +kernel)⟩, xT_mem (List.mem_append_right _ (List.mem_of_getElem? (i := 3) (by decide +kernel))) (by decide +kernel), xT_mem (List.mem_append_right _ (List.mem_of_getElem? (i := 40) (by decide +kernel))) (by decide +kernel), ⟨by decide +kernel, by decide +kernel⟩, by decide +kernel⟩, xT_mem (List.mem_append_right _ (List.mem_of_getElem? (i := 39) (by decide +kernel))) (by decide +kernel), rfl⟩
theorem nl_X11_24 : Cond.classLink RX11 24 RX0 ∈ xT ∧ Cond.instantiable RX0 5 ∈ xT ∧ Cond.initialized RX0 ∈ xT := ⟨xT_mem (List.mem_append_right _ (List.mem_of_getElem? (i := 112) (by decide +kernel))) (by decide +kernel), xT_mem (List.mem_append_right _ (List.mem_of_getElem? (i := 113) (by decide +kernel))) (by decide +kernel), xT_mem (List.mem_append_right _ (List.mem_of_getElem? (i := 4) (by decide +kernel))) (by decide +kernel)⟩
theorem nl_X11_33 : Cond.classLink RX11 33 RX5 ∈ xT ∧ Cond.instantiable RX5 8 ∈ xT ∧ Cond.initialized RX5 ∈ xT := ⟨xT_mem (List.mem_append_right _ (List.mem_of_getElem? (i := 141) (by decide +kernel))) (by decide +kernel), xT_mem (List.mem_append_right _ (List.mem_of_getElem? (i := 142) (by decide +kernel))) (by decide +kernel), xT_mem (List.mem_append_right _ (List.mem_of_getElem? (i := 5) (by decide +kernel))) (by decide +kernel)⟩
theorem nl_X11_40 : Cond.classLink RX11 40 RX10 ∈ xT ∧ Cond.instantiable RX10 6 ∈ xT ∧ Cond.initialized RX10 ∈ xT := ⟨xT_mem (List.mem_append_right _ (List.mem_of_getElem? (i := 196) (by decide +kernel))) (by decide +kernel), xT_mem (List.mem_append_right _ (List.mem_of_getElem? (i := 197) (by decide +kernel))) (by decide +kernel), xT_mem (List.mem_append_right _ (List.mem_of_getElem? (i := 7) (by decide +kernel))) (by decide +kernel)⟩
theorem nl_X11_49 : Cond.classLink RX11 49 RX8 ∈ xT ∧ Cond.instantiable RX8 7 ∈ xT ∧ Cond.initialized RX8 ∈ xT := ⟨xT_mem (List.mem_append_right _ (List.mem_of_getElem? (i := 223) (by decide +kernel))) (by decide +kernel), xT_mem (List.mem_append_right _ (List.mem_of_getElem? (i := 224) (by decide +kernel))) (by decide +kernel), xT_mem (List.mem_append_right _ (List.mem_of_getElem? (i := 8) (by decide +kernel))) (by decide +kernel)⟩
theorem nl_X11_56 : Cond.classLink RX11 56 RX3 ∈ xT ∧ Cond.instantiable RX3 4 ∈ xT ∧ Cond.initialized RX3 ∈ xT := ⟨xT_mem (List.mem_append_right _ (List.mem_of_getElem? (i := 254) (by decide +kernel))) (by decide +kernel), xT_mem (List.mem_append_right _ (List.mem_of_getElem? (i := 255) (by decide +kernel))) (by decide +kernel), xT_mem (List.mem_append_right _ (List.mem_of_getElem? (i := 9) (by decide +kernel))) (by decide +kernel)⟩
theorem nl_X11_63 : Cond.classLink RX11 63 RX1 ∈ xT ∧ Cond.instantiable RX1 10 ∈ xT ∧ Cond.initialized RX1 ∈ xT := ⟨xT_mem (List.mem_append_right _ (List.mem_of_getElem? (i := 275) (by decide +kernel))) (by decide +kernel), xT_mem (List.mem_append_right _ (List.mem_of_getElem? (i := 276) (by decide +kernel))) (by decide +kernel), xT_mem (List.mem_append_right _ (List.mem_of_getElem? (i := 10) (by decide +kernel))) (by decide +kernel)⟩
theorem nl_X11_7 : Cond.classLink RX11 7 RX7 ∈ xT ∧ Cond.instantiable RX7 9 ∈ xT ∧ Cond.initialized RX7 ∈ xT := ⟨xT_mem (List.mem_append_right _ (List.mem_of_getElem? (i := 30) (by decide +kernel))) (by decide +kernel), xT_mem (List.mem_append_right _ (List.mem_of_getElem? (i := 31) (by decide +kernel))) (by decide +kernel), xT_mem (List.mem_append_right _ (List.mem_of_getElem? (i := 2) (by decide +kernel))) (by decide +kernel)⟩
theorem nl_X11_70 : Cond.classLink RX11 70 RX2 ∈ xT ∧ Cond.instantiable RX2 7 ∈ xT ∧ Cond.initialized RX2 ∈ xT := ⟨xT_mem (List.mem_append_right _ (List.mem_of_getElem? (i := 316) (by decide +kernel))) (by decide +kernel), xT_mem (List.mem_append_right _ (List.mem_of_getElem? (i := 317) (by decide +kernel))) (by decide +kernel), xT_mem (List.mem_append_right _ (List.mem_of_getElem? (i := 11) (by decide +kernel))) (by decide +kernel)⟩
theorem nl_X5_9 : Cond.classLink RX5 9 RX9 ∈ xT ∧ Cond.instantiable RX9 4 ∈ xT ∧ Cond.initialized RX9 ∈ xT := ⟨xT_mem (List.mem_append_right _ (List.mem_of_getElem? (i := 147) (by decide +kernel))) (by decide +kernel), xT_mem (List.mem_append_right _ (List.mem_of_getElem? (i := 148) (by decide +kernel))) (by decide +kernel), xT_mem (List.mem_append_right _ (List.mem_of_getElem? (i := 6) (by decide +kernel))) (by decide +kernel)⟩
theorem nl_X7_9 : Cond.classLink RX7 9 RX6 ∈ xT ∧ Cond.instantiable RX6 4 ∈ xT ∧ Cond.initialized RX6 ∈ xT := ⟨xT_mem (List.mem_append_right _ (List.mem_of_getElem? (i := 36) (by decide +kernel))) (by decide +kernel), xT_mem (List.mem_append_right _ (List.mem_of_getElem? (i := 37) (by decide +kernel))) (by decide +kernel), xT_mem (List.mem_append_right _ (List.mem_of_getElem? (i := 3) (by decide +kernel))) (by decide +kernel)⟩
theorem oi_X0_3 : Cond.methodLink RX0 3 Lib.objectInit ∈ xT := xT_mem (List.mem_append_right _ (List.mem_of_getElem? (i := 117) (by decide +kernel))) (by decide +kernel)
theorem oi_X1_3 : Cond.methodLink RX1 3 Lib.objectInit ∈ xT := xT_mem (List.mem_append_right _ (List.mem_of_getElem? (i := 280) (by decide +kernel))) (by decide +kernel)
theorem oi_X10_3 : Cond.methodLink RX10 3 Lib.objectInit ∈ xT := xT_mem (List.mem_append_right _ (List.mem_of_getElem? (i := 201) (by decide +kernel))) (by decide +kernel)
theorem oi_X11_1 : Cond.methodLink RX11 1 Lib.objectInit ∈ xT := xT_mem (List.mem_append_right _ (List.mem_of_getElem? (i := 27) (by decide +kernel))) (by decide +kernel)
theorem oi_X12_1 : Cond.methodLink RX12 1 Lib.objectInit ∈ xT := xT_mem (List.mem_append_right _ (List.mem_of_getElem? (i := 1103) (by decide +kernel))) (by decide +kernel)
theorem oi_X2_3 : Cond.methodLink RX2 3 Lib.objectInit ∈ xT := xT_mem (List.mem_append_right _ (List.mem_of_getElem? (i := 321) (by decide +kernel))) (by decide +kernel)
theorem oi_X3_3 : Cond.methodLink RX3 3 Lib.objectInit ∈ xT := xT_mem (List.mem_append_right _ (List.mem_of_getElem? (i := 259) (by decide +kernel))) (by decide +kernel)
theorem oi_X5_3 : Cond.methodLink RX5 3 Lib.objectInit ∈ xT := xT_mem (List.mem_append_right _ (List.mem_of_getElem? (i := 146) (by decide +kernel))) (by decide +kernel)
theorem oi_X6_3 : Cond.methodLink RX6 3 Lib.objectInit ∈ xT := xT_mem (List.mem_append_right _ (List.mem_of_getElem? (i := 41) (by decide +kernel))) (by decide +kernel)
theorem oi_X7_3 : Cond.methodLink RX7 3 Lib.objectInit ∈ xT := xT_mem (List.mem_append_right _ (List.mem_of_getElem? (i := 35) (by decide +kernel))) (by decide +kernel)
theorem oi_X8_3 : Cond.methodLink RX8 3 Lib.objectInit ∈ xT := xT_mem (List.mem_append_right _ (List.mem_of_getElem? (i := 228) (by decide +kernel))) (by decide +kernel)
theorem oi_X9_5 : Cond.methodLink RX9 5 Lib.objectInit ∈ xT := xT_mem (List.mem_append_right _ (List.mem_of_getElem? (i := 152) (by decide +kernel))) (by decide +kernel)
theorem dX0_init_0 : decode cX0_init 0 = .ok (.aload_n 0, 1) := by decide +kernel
theorem dX0_init_1 : decode cX0_init 1 = .ok (.invokespecial 3, 3) := by decide +kernel
theorem dX0_init_4 : decode cX0_init 4 = .ok (.aload_n 0, 1) := by decide +kernel
theorem dX0_init_5 : decode cX0_init 5 = .ok (.bipush 10, 2) := by decide +kernel
theorem dX0_init_7 : decode cX0_init 7 = .ok (.newarray .int, 2) := by decide +kernel
theorem dX0_init_9 : decode cX0_init 9 = .ok (.putfield 11, 3) := by decide +kernel
theorem dX0_init_12 : decode cX0_init 12 = .ok (.aload_n 0, 1) := by decide +kernel
theorem dX0_init_13 : decode cX0_init 13 = .ok (.bipush 64, 2) := by decide +kernel
theorem dX0_init_15 : decode cX0_init 15 = .ok (.newarray .long, 2) := by decide +kernel
theorem dX0_init_17 : decode cX0_init 17 = .ok (.putfield 17, 3) := by decide +kernel
theorem dX0_init_20 : decode cX0_init 20 = .ok (.aload_n 0, 1) := by decide +kernel
theorem dX0_init_21 : decode cX0_init 21 = .ok (.aload_n 1, 1) := by decide +kernel
theorem dX0_init_22 : decode cX0_init 22 = .ok (.putfield 21, 3) := by decide +kernel
theorem dX0_init_25 : decode cX0_init 25 = .ok (.return_, 1) := by decide +kernel
theorem dX1_init_0 : decode cX1_init 0 = .ok (.aload_n 0, 1) := by decide +kernel
theorem dX1_init_1 : decode cX1_init 1 = .ok (.invokespecial 3, 3) := by decide +kernel
theorem dX1_init_4 : decode cX1_init 4 = .ok (.aload_n 0, 1) := by decide +kernel
theorem dX1_init_5 : decode cX1_init 5 = .ok (.bipush 10, 2) := by decide +kernel
theorem dX1_init_7 : decode cX1_init 7 = .ok (.newarray .int, 2) := by decide +kernel
theorem dX1_init_9 : decode cX1_init 9 = .ok (.putfield 9, 3) := by decide +kernel
theorem dX1_init_12 : decode cX1_init 12 = .ok (.aload_n 0, 1) := by decide +kernel
theorem dX1_init_13 : decode cX1_init 13 = .ok (.bipush 10, 2) := by decide +kernel
theorem dX1_init_15 : decode cX1_init 15 = .ok (.newarray .int, 2) := by decide +kernel
theorem dX1_init_17 : decode cX1_init 17 = .ok (.putfield 15, 3) := by decide +kernel
theorem dX1_init_20 : decode cX1_init 20 = .ok (.aload_n 0, 1) := by decide +kernel
theorem dX1_init_21 : decode cX1_init 21 = .ok (.bipush 10, 2) := by decide +kernel
theorem dX1_init_23 : decode cX1_init 23 = .ok (.newarray .int, 2) := by decide +kernel
theorem dX1_init_25 : decode cX1_init 25 = .ok (.putfield 18, 3) := by decide +kernel
theorem dX1_init_28 : decode cX1_init 28 = .ok (.aload_n 0, 1) := by decide +kernel
theorem dX1_init_29 : decode cX1_init 29 = .ok (.iconst 2, 1) := by decide +kernel
theorem dX1_init_30 : decode cX1_init 30 = .ok (.bipush 21, 2) := by decide +kernel
theorem dX1_init_32 : decode cX1_init 32 = .ok (.multianewarray 21 2, 4) := by decide +kernel
theorem dX1_init_36 : decode cX1_init 36 = .ok (.putfield 23, 3) := by decide +kernel
theorem dX1_init_39 : decode cX1_init 39 = .ok (.aload_n 0, 1) := by decide +kernel
theorem dX1_init_40 : decode cX1_init 40 = .ok (.iconst 2, 1) := by decide +kernel
theorem dX1_init_41 : decode cX1_init 41 = .ok (.bipush 21, 2) := by decide +kernel
theorem dX1_init_43 : decode cX1_init 43 = .ok (.multianewarray 21 2, 4) := by decide +kernel
theorem dX1_init_47 : decode cX1_init 47 = .ok (.putfield 26, 3) := by decide +kernel
theorem dX1_init_50 : decode cX1_init 50 = .ok (.aload_n 0, 1) := by decide +kernel
theorem dX1_init_51 : decode cX1_init 51 = .ok (.aload_n 1, 1) := by decide +kernel
theorem dX1_init_52 : decode cX1_init 52 = .ok (.putfield 29, 3) := by decide +kernel
theorem dX1_init_55 : decode cX1_init 55 = .ok (.aload_n 0, 1) := by decide +kernel
theorem dX1_init_56 : decode cX1_init 56 = .ok (.aload_n 2, 1) := by decide +kernel
theorem dX1_init_57 : decode cX1_init 57 = .ok (.putfield 33, 3) := by decide +kernel
theorem dX1_init_60 : decode cX1_init 60 = .ok (.return_, 1) := by decide +kernel
theorem dX2_init_0 : decode cX2_init 0 = .ok (.aload_n 0, 1) := by decide +kernel
theorem dX2_init_1 : decode cX2_init 1 = .ok (.invokespecial 3, 3) := by decide +kernel
theorem dX2_init_4 : decode cX2_init 4 = .ok (.aload_n 0, 1) := by decide +kernel
theorem dX2_init_5 : decode cX2_init 5 = .ok (.bipush 10, 2) := by decide +kernel
theorem dX2_init_7 : decode cX2_init 7 = .ok (.newarray .int, 2) := by decide +kernel
theorem dX2_init_9 : decode cX2_init 9 = .ok (.putfield 9, 3) := by decide +kernel
theorem dX2_init_12 : decode cX2_init 12 = .ok (.aload_n 0, 1) := by decide +kernel
theorem dX2_init_13 : decode cX2_init 13 = .ok (.bipush 10, 2) := by decide +kernel
theorem dX2_init_15 : decode cX2_init 15 = .ok (.newarray .int, 2) := by decide +kernel
theorem dX2_init_17 : decode cX2_init 17 = .ok (.putfield 15, 3) := by decide +kernel
theorem dX2_init_20 : decode cX2_init 20 = .ok (.aload_n 0, 1) := by decide +kernel
theorem dX2_init_21 : decode cX2_init 21 = .ok (.aload_n 1, 1) := by decide +kernel
theorem dX2_init_22 : decode cX2_init 22 = .ok (.putfield 18, 3) := by decide +kernel
theorem dX2_init_25 : decode cX2_init 25 = .ok (.aload_n 0, 1) := by decide +kernel
theorem dX2_init_26 : decode cX2_init 26 = .ok (.aload_n 2, 1) := by decide +kernel
theorem dX2_init_27 : decode cX2_init 27 = .ok (.putfield 22, 3) := by decide +kernel
theorem dX2_init_30 : decode cX2_init 30 = .ok (.aload_n 0, 1) := by decide +kernel
theorem dX2_init_31 : decode cX2_init 31 = .ok (.aload_n 3, 1) := by decide +kernel
theorem dX2_init_32 : decode cX2_init 32 = .ok (.putfield 26, 3) := by decide +kernel
theorem dX2_init_35 : decode cX2_init 35 = .ok (.aload_n 0, 1) := by decide +kernel
theorem dX2_init_36 : decode cX2_init 36 = .ok (.getfield 9, 3) := by decide +kernel
theorem dX2_init_39 : decode cX2_init 39 = .ok (.iconst (-1), 1) := by decide +kernel
theorem dX2_init_40 : decode cX2_init 40 = .ok (.invokestatic 30, 3) := by decide +kernel
theorem dX2_init_43 : decode cX2_init 43 = .ok (.aload_n 0, 1) := by decide +kernel
theorem dX2_init_44 : decode cX2_init 44 = .ok (.getfield 15, 3) := by decide +kernel
theorem dX2_init_47 : decode cX2_init 47 = .ok (.iconst (-1), 1) := by decide +kernel
theorem dX2_init_48 : decode cX2_init 48 = .ok (.invokestatic 30, 3) := by decide +kernel
theorem dX2_init_51 : decode cX2_init 51 = .ok (.return_, 1) := by decide +kernel
theorem dX3_init_0 : decode cX3_init 0 = .ok (.aload_n 0, 1) := by decide +kernel
theorem dX3_init_1 : decode cX3_init 1 = .ok (.invokespecial 3, 3) := by decide +kernel
theorem dX3_init_4 : decode cX3_init 4 = .ok (.aload_n 0, 1) := by decide +kernel
theorem dX3_init_5 : decode cX3_init 5 = .ok (.bipush 8, 2) := by decide +kernel
theorem dX3_init_7 : decode cX3_init 7 = .ok (.bipush 10, 2) := by decide +kernel
theorem dX3_init_9 : decode cX3_init 9 = .ok (.multianewarray 9 2, 4) := by decide +kernel
theorem dX3_init_13 : decode cX3_init 13 = .ok (.putfield 11, 3) := by decide +kernel
theorem dX3_init_16 : decode cX3_init 16 = .ok (.aload_n 0, 1) := by decide +kernel
theorem dX3_init_17 : decode cX3_init 17 = .ok (.bipush 9, 2) := by decide +kernel
theorem dX3_init_19 : decode cX3_init 19 = .ok (.sipush 1024, 3) := by decide +kernel
theorem dX3_init_22 : decode cX3_init 22 = .ok (.multianewarray 9 2, 4) := by decide +kernel
theorem dX3_init_26 : decode cX3_init 26 = .ok (.putfield 16, 3) := by decide +kernel
theorem dX3_init_29 : decode cX3_init 29 = .ok (.aload_n 0, 1) := by decide +kernel
theorem dX3_init_30 : decode cX3_init 30 = .ok (.aload_n 1, 1) := by decide +kernel
theorem dX3_init_31 : decode cX3_init 31 = .ok (.putfield 19, 3) := by decide +kernel
theorem dX3_init_34 : decode cX3_init 34 = .ok (.aload_n 0, 1) := by decide +kernel
theorem dX3_init_35 : decode cX3_init 35 = .ok (.aload_n 2, 1) := by decide +kernel
theorem dX3_init_36 : decode cX3_init 36 = .ok (.putfield 23, 3) := by decide +kernel
theorem dX3_init_39 : decode cX3_init 39 = .ok (.return_, 1) := by decide +kernel
theorem dX4_init_0 : decode cX4_init 0 = .ok (.aload_n 0, 1) := by decide +kernel
theorem dX4_init_1 : decode cX4_init 1 = .ok (.invokespecial 1, 3) := by decide +kernel
theorem dX4_init_4 : decode cX4_init 4 = .ok (.aload_n 0, 1) := by decide +kernel
theorem dX4_init_5 : decode cX4_init 5 = .ok (.iload_n 1, 1) := by decide +kernel
theorem dX4_init_6 : decode cX4_init 6 = .ok (.putfield 7, 3) := by decide +kernel
theorem dX4_init_9 : decode cX4_init 9 = .ok (.aload_n 0, 1) := by decide +kernel
theorem dX4_init_10 : decode cX4_init 10 = .ok (.aload_n 2, 1) := by decide +kernel
theorem dX4_init_11 : decode cX4_init 11 = .ok (.putfield 13, 3) := by decide +kernel
theorem dX4_init_14 : decode cX4_init 14 = .ok (.aload_n 0, 1) := by decide +kernel
theorem dX4_init_15 : decode cX4_init 15 = .ok (.aload_n 3, 1) := by decide +kernel
theorem dX4_init_16 : decode cX4_init 16 = .ok (.putfield 17, 3) := by decide +kernel
theorem dX4_init_19 : decode cX4_init 19 = .ok (.aload_n 0, 1) := by decide +kernel
theorem dX4_init_20 : decode cX4_init 20 = .ok (.aload 4, 2) := by decide +kernel
theorem dX4_init_22 : decode cX4_init 22 = .ok (.putfield 20, 3) := by decide +kernel
theorem dX4_init_25 : decode cX4_init 25 = .ok (.return_, 1) := by decide +kernel
theorem dX5_init_0 : decode cX5_init 0 = .ok (.aload_n 0, 1) := by decide +kernel
theorem dX5_init_1 : decode cX5_init 1 = .ok (.invokespecial 3, 3) := by decide +kernel
theorem dX5_init_4 : decode cX5_init 4 = .ok (.aload_n 0, 1) := by decide +kernel
theorem dX5_init_5 : decode cX5_init 5 = .ok (.new 9, 3) := by decide +kernel
theorem dX5_init_8 : decode cX5_init 8 = .ok (.dup, 1) := by decide +kernel
theorem dX5_init_9 : decode cX5_init 9 = .ok (.invokespecial 11, 3) := by decide +kernel
theorem dX5_init_12 : decode cX5_init 12 = .ok (.putfield 12, 3) := by decide +kernel
theorem dX5_init_15 : decode cX5_init 15 = .ok (.aload_n 0, 1) := by decide +kernel
theorem dX5_init_16 : decode cX5_init 16 = .ok (.bipush 12, 2) := by decide +kernel
theorem dX5_init_18 : decode cX5_init 18 = .ok (.newarray .int, 2) := by decide +kernel
theorem dX5_init_20 : decode cX5_init 20 = .ok (.putfield 18, 3) := by decide +kernel
theorem dX5_init_23 : decode cX5_init 23 = .ok (.aload_n 0, 1) := by decide +kernel
theorem dX5_init_24 : decode cX5_init 24 = .ok (.bipush 13, 2) := by decide +kernel
theorem dX5_init_26 : decode cX5_init 26 = .ok (.newarray .int, 2) := by decide +kernel
theorem dX5_init_28 : decode cX5_init 28 = .ok (.putfield 22, 3) := by decide +kernel
theorem dX5_init_31 : decode cX5_init 31 = .ok (.aload_n 0, 1) := by decide +kernel
theorem dX5_init_32 : decode cX5_init 32 = .ok (.sipush 400, 3) := by decide +kernel
theorem dX5_init_35 : decode cX5_init 35 = .ok (.newarray .int, 2) := by decide +kernel
theorem dX5_init_37 : decode cX5_init 37 = .ok (.putfield 25, 3) := by decide +kernel
theorem dX5_init_40 : decode cX5_init 40 = .ok (.aload_n 0, 1) := by decide +kernel
theorem dX5_init_41 : decode cX5_init 41 = .ok (.iconst (-1), 1) := by decide +kernel
theorem dX5_init_42 : decode cX5_init 42 = .ok (.putfield 28, 3) := by decide +kernel
theorem dX5_init_45 : decode cX5_init 45 = .ok (.return_, 1) := by decide +kernel
theorem dX6_init_0 : decode cX6_init 0 = .ok (.aload_n 0, 1) := by decide +kernel
theorem dX6_init_1 : decode cX6_init 1 = .ok (.invokespecial 3, 3) := by decide +kernel
theorem dX6_init_4 : decode cX6_init 4 = .ok (.aload_n 0, 1) := by decide +kernel
theorem dX6_init_5 : decode cX6_init 5 = .ok (.iload_n 1, 1) := by decide +kernel
theorem dX6_init_6 : decode cX6_init 6 = .ok (.putfield 9, 3) := by decide +kernel
theorem dX6_init_9 : decode cX6_init 9 = .ok (.aload_n 0, 1) := by decide +kernel
theorem dX6_init_10 : decode cX6_init 10 = .ok (.iload_n 2, 1) := by decide +kernel
theorem dX6_init_11 : decode cX6_init 11 = .ok (.putfield 15, 3) := by decide +kernel
theorem dX6_init_14 : decode cX6_init 14 = .ok (.aload_n 0, 1) := by decide +kernel
theorem dX6_init_15 : decode cX6_init 15 = .ok (.iload_n 1, 1) := by decide +kernel
theorem dX6_init_16 : decode cX6_init 16 = .ok (.iload_n 2, 1) := by decide +kernel
theorem dX6_init_17 : decode cX6_init 17 = .ok (.imul, 1) := by decide +kernel
theorem dX6_init_18 : decode cX6_init 18 = .ok (.newarray .int, 2) := by decide +kernel
theorem dX6_init_20 : decode cX6_init 20 = .ok (.putfield 18, 3) := by decide +kernel
theorem dX6_init_23 : decode cX6_init 23 = .ok (.return_, 1) := by decide +kernel
theorem dX7_init_0 : decode cX7_init 0 = .ok (.aload_n 0, 1) := by decide +kernel
theorem dX7_init_1 : decode cX7_init 1 = .ok (.invokespecial 3, 3) := by decide +kernel
theorem dX7_init_4 : decode cX7_init 4 = .ok (.aload_n 0, 1) := by decide +kernel
theorem dX7_init_5 : decode cX7_init 5 = .ok (.new 9, 3) := by decide +kernel
theorem dX7_init_8 : decode cX7_init 8 = .ok (.dup, 1) := by decide +kernel
theorem dX7_init_9 : decode cX7_init 9 = .ok (.bipush 10, 2) := by decide +kernel
theorem dX7_init_11 : decode cX7_init 11 = .ok (.iconst 5, 1) := by decide +kernel
theorem dX7_init_12 : decode cX7_init 12 = .ok (.invokespecial 11, 3) := by decide +kernel
theorem dX7_init_15 : decode cX7_init 15 = .ok (.putfield 14, 3) := by decide +kernel
theorem dX7_init_18 : decode cX7_init 18 = .ok (.aload_n 0, 1) := by decide +kernel
theorem dX7_init_19 : decode cX7_init 19 = .ok (.new 9, 3) := by decide +kernel
theorem dX7_init_22 : decode cX7_init 22 = .ok (.dup, 1) := by decide +kernel
theorem dX7_init_23 : decode cX7_init 23 = .ok (.bipush 12, 2) := by decide +kernel
theorem dX7_init_25 : decode cX7_init 25 = .ok (.iconst 3, 1) := by decide +kernel
theorem dX7_init_26 : decode cX7_init 26 = .ok (.invokespecial 11, 3) := by decide +kernel
theorem dX7_init_29 : decode cX7_init 29 = .ok (.putfield 20, 3) := by decide +kernel
theorem dX7_init_32 : decode cX7_init 32 = .ok (.aload_n 0, 1) := by decide +kernel
theorem dX7_init_33 : decode cX7_init 33 = .ok (.new 9, 3) := by decide +kernel
theorem dX7_init_36 : decode cX7_init 36 = .ok (.dup, 1) := by decide +kernel
theorem dX7_init_37 : decode cX7_init 37 = .ok (.bipush 8, 2) := by decide +kernel
theorem dX7_init_39 : decode cX7_init 39 = .ok (.iconst 3, 1) := by decide +kernel
theorem dX7_init_40 : decode cX7_init 40 = .ok (.invokespecial 11, 3) := by decide +kernel
theorem dX7_init_43 : decode cX7_init 43 = .ok (.putfield 23, 3) := by decide +kernel
theorem dX7_init_46 : decode cX7_init 46 = .ok (.aload_n 0, 1) := by decide +kernel
theorem dX7_init_47 : decode cX7_init 47 = .ok (.new 9, 3) := by decide +kernel
theorem dX7_init_50 : decode cX7_init 50 = .ok (.dup, 1) := by decide +kernel
theorem dX7_init_51 : decode cX7_init 51 = .ok (.bipush 10, 2) := by decide +kernel
theorem dX7_init_53 : decode cX7_init 53 = .ok (.iconst 1, 1) := by decide +kernel
theorem dX7_init_54 : decode cX7_init 54 = .ok (.invokespecial 11, 3) := by decide +kernel
theorem dX7_init_57 : decode cX7_init 57 = .ok (.putfield 26, 3) := by decide +kernel
theorem dX7_init_60 : decode cX7_init 60 = .ok (.aload_n 0, 1) := by decide +kernel
theorem dX7_init_61 : decode cX7_init 61 = .ok (.new 9, 3) := by decide +kernel
theorem dX7_init_64 : decode cX7_init 64 = .ok (.dup, 1) := by decide +kernel
theorem dX7_init_65 : decode cX7_init 65 = .ok (.bipush 6, 2) := by decide +kernel
theorem dX7_init_67 : decode cX7_init 67 = .ok (.iconst 2, 1) := by decide +kernel
theorem dX7_init_68 : decode cX7_init 68 = .ok (.invokespecial 11, 3) := by decide +kernel
theorem dX7_init_71 : decode cX7_init 71 = .ok (.putfield 29, 3) := by decide +kernel
theorem dX7_init_74 : decode cX7_init 74 = .ok (.aload_n 0, 1) := by decide +kernel
theorem dX7_init_75 : decode cX7_init 75 = .ok (.bipush 6, 2) := by decide +kernel
theorem dX7_init_77 : decode cX7_init 77 = .ok (.newarray .int, 2) := by decide +kernel
theorem dX7_init_79 : decode cX7_init 79 = .ok (.dup, 1) := by decide +kernel
theorem dX7_init_80 : decode cX7_init 80 = .ok (.iconst 0, 1) := by decide +kernel
theorem dX7_init_81 : decode cX7_init 81 = .ok (.iconst 0, 1) := by decide +kernel
theorem dX7_init_82 : decode cX7_init 82 = .ok (.iastore, 1) := by decide +kernel
theorem dX7_init_83 : decode cX7_init 83 = .ok (.dup, 1) := by decide +kernel
theorem dX7_init_84 : decode cX7_init 84 = .ok (.iconst 1, 1) := by decide +kernel
theorem dX7_init_85 : decode cX7_init 85 = .ok (.iconst 0, 1) := by decide +kernel
theorem dX7_init_86 : decode cX7_init 86 = .ok (.iastore, 1) := by decide +kernel
theorem dX7_init_87 : decode cX7_init 87 = .ok (.dup, 1) := by decide +kernel
theorem dX7_init_88 : decode cX7_init 88 = .ok (.iconst 2, 1) := by decide +kernel
theorem dX7_init_89 : decode cX7_init 89 = .ok (.iconst 1, 1) := by decide +kernel
theorem dX7_init_90 : decode cX7_init 90 = .ok (.iastore, 1) := by decide +kernel
theorem dX7_init_91 : decode cX7_init 91 = .ok (.dup, 1) := by decide +kernel
theorem dX7_init_92 : decode cX7_init 92 = .ok (.iconst 3, 1) := by decide +kernel
theorem dX7_init_93 : decode cX7_init 93 = .ok (.iconst 0, 1) := by decide +kernel
theorem dX7_init_94 : decode cX7_init 94 = .ok (.iastore, 1) := by decide +kernel
theorem dX7_init_95 : decode cX7_init 95 = .ok (.dup, 1) := by decide +kernel
theorem dX7_init_96 : decode cX7_init 96 = .ok (.iconst 4, 1) := by decide +kernel
theorem dX7_init_97 : decode cX7_init 97 = .ok (.iconst 2, 1) := by decide +kernel
theorem dX7_init_98 : decode cX7_init 98 = .ok (.iastore, 1) := by decide +kernel
theorem dX7_init_99 : decode cX7_init 99 = .ok (.dup, 1) := by decide +kernel
theorem dX7_init_100 : decode cX7_init 100 = .ok (.iconst 5, 1) := by decide +kernel
theorem dX7_init_101 : decode cX7_init 101 = .ok (.bipush 10, 2) := by decide +kernel
theorem dX7_init_103 : decode cX7_init 103 = .ok (.iastore, 1) := by decide +kernel
theorem dX7_init_104 : decode cX7_init 104 = .ok (.putfield 32, 3) := by decide +kernel
theorem dX7_init_107 : decode cX7_init 107 = .ok (.aload_n 0, 1) := by decide +kernel
theorem dX7_init_108 : decode cX7_init 108 = .ok (.bipush 6, 2) := by decide +kernel
theorem dX7_init_110 : decode cX7_init 110 = .ok (.anewarray 36, 3) := by decide +kernel
theorem dX7_init_113 : decode cX7_init 113 = .ok (.putfield 38, 3) := by decide +kernel
theorem dX7_init_116 : decode cX7_init 116 = .ok (.aload_n 0, 1) := by decide +kernel
theorem dX7_init_117 : decode cX7_init 117 = .ok (.iconst (-1), 1) := by decide +kernel
theorem dX7_init_118 : decode cX7_init 118 = .ok (.putfield 42, 3) := by decide +kernel
theorem dX7_init_121 : decode cX7_init 121 = .ok (.return_, 1) := by decide +kernel
theorem dX8_init_0 : decode cX8_init 0 = .ok (.aload_n 0, 1) := by decide +kernel
theorem dX8_init_1 : decode cX8_init 1 = .ok (.invokespecial 3, 3) := by decide +kernel
theorem dX8_init_4 : decode cX8_init 4 = .ok (.aload_n 0, 1) := by decide +kernel
theorem dX8_init_5 : decode cX8_init 5 = .ok (.bipush 10, 2) := by decide +kernel
theorem dX8_init_7 : decode cX8_init 7 = .ok (.newarray .int, 2) := by decide +kernel
theorem dX8_init_9 : decode cX8_init 9 = .ok (.putfield 9, 3) := by decide +kernel
theorem dX8_init_12 : decode cX8_init 12 = .ok (.aload_n 0, 1) := by decide +kernel
theorem dX8_init_13 : decode cX8_init 13 = .ok (.sipush 19820, 3) := by decide +kernel
theorem dX8_init_16 : decode cX8_init 16 = .ok (.newarray .int, 2) := by decide +kernel
theorem dX8_init_18 : decode cX8_init 18 = .ok (.putfield 15, 3) := by decide +kernel
theorem dX8_init_21 : decode cX8_init 21 = .ok (.aload_n 0, 1) := by decide +kernel
theorem dX8_init_22 : decode cX8_init 22 = .ok (.aload_n 1, 1) := by decide +kernel
theorem dX8_init_23 : decode cX8_init 23 = .ok (.putfield 18, 3) := by decide +kernel
theorem dX8_init_26 : decode cX8_init 26 = .ok (.aload_n 0, 1) := by decide +kernel
theorem dX8_init_27 : decode cX8_init 27 = .ok (.aload_n 2, 1) := by decide +kernel
theorem dX8_init_28 : decode cX8_init 28 = .ok (.putfield 22, 3) := by decide +kernel
theorem dX8_init_31 : decode cX8_init 31 = .ok (.return_, 1) := by decide +kernel
theorem dX9_init_0 : decode cX9_init 0 = .ok (.aload_n 0, 1) := by decide +kernel
theorem dX9_init_1 : decode cX9_init 1 = .ok (.invokespecial 5, 3) := by decide +kernel
theorem dX9_init_4 : decode cX9_init 4 = .ok (.aload_n 0, 1) := by decide +kernel
theorem dX9_init_5 : decode cX9_init 5 = .ok (.sipush 401, 3) := by decide +kernel
theorem dX9_init_8 : decode cX9_init 8 = .ok (.newarray .int, 2) := by decide +kernel
theorem dX9_init_10 : decode cX9_init 10 = .ok (.putfield 11, 3) := by decide +kernel
theorem dX9_init_13 : decode cX9_init 13 = .ok (.aload_n 0, 1) := by decide +kernel
theorem dX9_init_14 : decode cX9_init 14 = .ok (.sipush 401, 3) := by decide +kernel
theorem dX9_init_17 : decode cX9_init 17 = .ok (.newarray .int, 2) := by decide +kernel
theorem dX9_init_19 : decode cX9_init 19 = .ok (.putfield 15, 3) := by decide +kernel
theorem dX9_init_22 : decode cX9_init 22 = .ok (.aload_n 0, 1) := by decide +kernel
theorem dX9_init_23 : decode cX9_init 23 = .ok (.sipush 401, 3) := by decide +kernel
theorem dX9_init_26 : decode cX9_init 26 = .ok (.newarray .int, 2) := by decide +kernel
theorem dX9_init_28 : decode cX9_init 28 = .ok (.putfield 18, 3) := by decide +kernel
theorem dX9_init_31 : decode cX9_init 31 = .ok (.return_, 1) := by decide +kernel
theorem dX10_init_0 : decode cX10_init 0 = .ok (.aload_n 0, 1) := by decide +kernel
theorem dX10_init_1 : decode cX10_init 1 = .ok (.invokespecial 3, 3) := by decide +kernel
theorem dX10_init_4 : decode cX10_init 4 = .ok (.aload_n 0, 1) := by decide +kernel
theorem dX10_init_5 : decode cX10_init 5 = .ok (.bipush 21, 2) := by decide +kernel
theorem dX10_init_7 : decode cX10_init 7 = .ok (.newarray .int, 2) := by decide +kernel
theorem dX10_init_9 : decode cX10_init 9 = .ok (.putfield 9, 3) := by decide +kernel
theorem dX10_init_12 : decode cX10_init 12 = .ok (.aload_n 0, 1) := by decide +kernel
theorem dX10_init_13 : decode cX10_init 13 = .ok (.bipush 6, 2) := by decide +kernel
theorem dX10_init_15 : decode cX10_init 15 = .ok (.bipush 21, 2) := by decide +kernel
theorem dX10_init_17 : decode cX10_init 17 = .ok (.multianewarray 15 2, 4) := by decide +kernel
theorem dX10_init_21 : decode cX10_init 21 = .ok (.putfield 17, 3) := by decide +kernel
theorem dX10_init_24 : decode cX10_init 24 = .ok (.aload_n 0, 1) := by decide +kernel
theorem dX10_init_25 : decode cX10_init 25 = .ok (.bipush 6, 2) := by decide +kernel
theorem dX10_init_27 : decode cX10_init 27 = .ok (.newarray .long, 2) := by decide +kernel
theorem dX10_init_29 : decode cX10_init 29 = .ok (.putfield 20, 3) := by decide +kernel
theorem dX10_init_32 : decode cX10_init 32 = .ok (.aload_n 0, 1) := by decide +kernel
theorem dX10_init_33 : decode cX10_init 33 = .ok (.bipush 6, 2) := by decide +kernel
theorem dX10_init_35 : decode cX10_init 35 = .ok (.newarray .int, 2) := by decide +kernel
theorem dX10_init_37 : decode cX10_init 37 = .ok (.putfield 24, 3) := by decide +kernel
theorem dX10_init_40 : decode cX10_init 40 = .ok (.aload_n 0, 1) := by decide +kernel
theorem dX10_init_41 : decode cX10_init 41 = .ok (.aload_n 1, 1) := by decide +kernel
theorem dX10_init_42 : decode cX10_init 42 = .ok (.putfield 27, 3) := by decide +kernel
theorem dX10_init_45 : decode cX10_init 45 = .ok (.aload_n 0, 1) := by decide +kernel
theorem dX10_init_46 : decode cX10_init 46 = .ok (.aload_n 2, 1) := by decide +kernel
theorem dX10_init_47 : decode cX10_init 47 = .ok (.putfield 31, 3) := by decide +kernel
theorem dX10_init_50 : decode cX10_init 50 = .ok (.return_, 1) := by decide +kernel
set_option maxHeartbeats 4000000 in
set_option maxRecDepth 100000 in
theorem c_X6_init_10_5 (l : Launch) (D : va_G) (K : Nat → ClassId) {ws : va_W} {a kq : Nat} (hq : ws[kq]? = some (a, .inr (6, [.int 0, .int 0, .null, .int 0]))) : CVw l D K yX6_init cX6_init 3 1 30 1 50 [.ref a, .int 10, .int 5] ws (fun w1 => ∃ q1 : Nat, w1 = ws.set kq (a, .inr (6, [.int 10, .int 5, .ref q1, .int 0])) ++ [(q1, .inl (K 0, (50, .inl (fun _ => 0))))]) := by
  refine x_enterw [(0, .ref a), (1, .int 10), (2, .int 5)] pnX6 (Nat.le_of_ble_eq_true rfl) rfl ?_
  intro p e s m args below meth c A C hin
  refine x_wcast (ws2 := ws.set kq (a, .inr (6, [.int 0, .int 0, .null, .int 0])) ++ []) (by rw [set_same hq, List.append_nil]) ?_
  refine x_aload_n C 0 0 dX6_init_0 rfl rfl ?_
  refine x_objInit C dX6_init_1 oi_X6_3 ⟨Nat.le_of_ble_eq_true rfl, Nat.le_of_ble_eq_true rfl⟩ ?_
  refine x_aload_n C 0 0 dX6_init_4 rfl rfl ?_
  refine x_iload_n C 1 1 dX6_init_5 rfl rfl ?_
  refine x_putF C hin kq dX6_init_6 fi_X6_9 ⟨_, _, _, rfl, rfl, rfl⟩ rfl rfl (nw_at hq) (Nat.le_of_ble_eq_true rfl) (nw_set hq) ?_
  refine x_wcast (ws2 := ws.set kq (a, .inr (6, [.int 10, .int 0, .null, .int 0])) ++ []) rfl ?_
  refine x_aload_n C 0 0 dX6_init_9 rfl rfl ?_
  refine x_iload_n C 2 2 dX6_init_10 rfl rfl ?_
  refine x_putF C hin kq dX6_init_11 fi_X6_15 ⟨_, _, _, rfl, rfl, rfl⟩ rfl rfl (nw_at hq) (Nat.le_of_ble_eq_true rfl) (nw_set hq) ?_
  refine x_wcast (ws2 := ws.set kq (a, .inr (6, [.int 10, .int 5, .null, .int 0])) ++ []) rfl ?_
  refine x_aload_n C 0 0 dX6_init_14 rfl rfl ?_
  refine x_iload_n C 1 1 dX6_init_15 rfl rfl ?_
  refine x_iload_n C 2 2 dX6_init_16 rfl rfl ?_
  refine x_imul C dX6_init_17 ?_
  refine x_if_cast (st2 := [.int 50, .ref a]) rfl ?_
  refine x_newaI C 50 dX6_init_18 ac_I (by decide) (by decide +kernel) (Nat.le_of_ble_eq_true rfl) ⟨Nat.le_of_ble_eq_true rfl, Nat.le_of_ble_eq_true rfl⟩ (fun q1 => ?_)
  refine x_wcast (ws2 := ws.set kq (a, .inr (6, [.int 10, .int 5, .null, .int 0])) ++ [(q1, .inl (K 0, (50, .inl (fun _ => 0))))]) (List.append_assoc _ _ _) ?_
  refine x_putF C hin kq dX6_init_20 fi_X6_18 ⟨_, _, _, rfl, rfl, rfl⟩ rfl rfl (nw_at hq) (Nat.le_of_ble_eq_true rfl) (nw_set hq) ?_
  refine x_wcast (ws2 := ws.set kq (a, .inr (6, [.int 10, .int 5, .ref q1, .int 0])) ++ [(q1, .inl (K 0, (50, .inl (fun _ => 0))))]) rfl ?_
  refine x_widen (k' := 1) (n' := 50) (Nat.le_of_ble_eq_true rfl) (Nat.le_of_ble_eq_true rfl) ?_
  exact x_vretw C dX6_init_23 rfl ⟨q1, rfl⟩
set_option maxHeartbeats 4000000 in
set_option maxRecDepth 100000 in
theorem c_X6_init_12_3 (l : Launch) (D : va_G) (K : Nat → ClassId) {ws : va_W} {a kq : Nat} (hq : ws[kq]? = some (a, .inr (6, [.int 0, .int 0, .null, .int 0]))) : CVw l D K yX6_init cX6_init 3 1 30 1 36 [.ref a, .int 12, .int 3] ws (fun w1 => ∃ q1 : Nat, w1 = ws.set kq (a, .inr (6, [.int 12, .int 3, .ref q1, .int 0])) ++ [(q1, .inl (K 0, (36, .inl (fun _ => 0))))]) := by
  refine x_enterw [(0, .ref a), (1, .int 12), (2, .int 3)] pnX6 (Nat.le_of_ble_eq_true rfl) rfl ?_
  intro p e s m args below meth c A C hin
  refine x_wcast (ws2 := ws.set kq (a, .inr (6, [.int 0, .int 0, .null, .int 0])) ++ []) (by rw [set_same hq, List.append_nil]) ?_
  refine x_aload_n C 0 0 dX6_init_0 rfl rfl ?_
  refine x_objInit C dX6_init_1 oi_X6_3 ⟨Nat.le_of_ble_eq_true rfl, Nat.le_of_ble_eq_true rfl⟩ ?_
  refine x_aload_n C 0 0 dX6_init_4 rfl rfl ?_
  refine x_iload_n C 1 1 dX6_init_5 rfl rfl ?_
  refine x_putF C hin kq dX6_init_6 fi_X6_9 ⟨_, _, _, rfl, rfl, rfl⟩ rfl rfl (nw_at hq) (Nat.le_of_ble_eq_true rfl) (nw_set hq) ?_
  refine x_wcast (ws2 := ws.set kq (a, .inr (6, [.int 12, .int 0, .null, .int 0])) ++ []) rfl ?_
  refine x_aload_n C 0 0 dX6_init_9 rfl rfl ?_
  refine x_iload_n C 2 2 dX6_init_10 rfl rfl ?_
  refine x_putF C hin kq dX6_init_11 fi_X6_15 ⟨_, _, _, rfl, rfl, rfl⟩ rfl rfl (nw_at hq) (Nat.le_of_ble_eq_true rfl) (nw_set hq) ?_
  refine x_wcast (ws2 := ws.set kq (a, .inr (6, [.int 12, .int 3, .null, .int 0])) ++ []) rfl ?_
  refine x_aload_n C 0 0 dX6_init_14 rfl rfl ?_
  refine x_iload_n C 1 1 dX6_init_15 rfl rfl ?_
  refine x_iload_n C 2 2 dX6_init_16 rfl rfl ?_
  refine x_imul C dX6_init_17 ?_
  refine x_if_cast (st2 := [.int 36, .ref a]) rfl ?_
  refine x_newaI C 36 dX6_init_18 ac_I (by decide) (by decide +kernel) (Nat.le_of_ble_eq_true rfl) ⟨Nat.le_of_ble_eq_true rfl, Nat.le_of_ble_eq_true rfl⟩ (fun q1 => ?_)
  refine x_wcast (ws2 := ws.set kq (a, .inr (6, [.int 12, .int 3, .null, .int 0])) ++ [(q1, .inl (K 0, (36, .inl (fun _ => 0))))]) (List.append_assoc _ _ _) ?_
  refine x_putF C hin kq dX6_init_20 fi_X6_18 ⟨_, _, _, rfl, rfl, rfl⟩ rfl rfl (nw_at hq) (Nat.le_of_ble_eq_true rfl) (nw_set hq) ?_
  refine x_wcast (ws2 := ws.set kq (a, .inr (6, [.int 12, .int 3, .ref q1, .int 0])) ++ [(q1, .inl (K 0, (36, .inl (fun _ => 0))))]) rfl ?_
  refine x_widen (k' := 1) (n' := 36) (Nat.le_of_ble_eq_true rfl) (Nat.le_of_ble_eq_true rfl) ?_
  exact x_vretw C dX6_init_23 rfl ⟨q1, rfl⟩
set_option maxHeartbeats 4000000 in
set_option maxRecDepth 100000 in
theorem c_X6_init_8_3 (l : Launch) (D : va_G) (K : Nat → ClassId) {ws : va_W} {a kq : Nat} (hq : ws[kq]? = some (a, .inr (6, [.int 0, .int 0, .null, .int 0]))) : CVw l D K yX6_init cX6_init 3 1 30 1 24 [.ref a, .int 8, .int 3] ws (fun w1 => ∃ q1 : Nat, w1 = ws.set kq (a, .inr (6, [.int 8, .int 3, .ref q1, .int 0])) ++ [(q1, .inl (K 0, (24, .inl (fun _ => 0))))]) := by
  refine x_enterw [(0, .ref a), (1, .int 8), (2, .int 3)] pnX6 (Nat.le_of_ble_eq_true rfl) rfl ?_
  intro p e s m args below meth c A C hin
  refine x_wcast (ws2 := ws.set kq (a, .inr (6, [.int 0, .int 0, .null, .int 0])) ++ []) (by rw [set_same hq, List.append_nil]) ?_
  refine x_aload_n C 0 0 dX6_init_0 rfl rfl ?_
  refine x_objInit C dX6_init_1 oi_X6_3 ⟨Nat.le_of_ble_eq_true rfl, Nat.le_of_ble_eq_true rfl⟩ ?_
  refine x_aload_n C 0 0 dX6_init_4 rfl rfl ?_
  refine x_iload_n C 1 1 dX6_init_5 rfl rfl ?_
  refine x_putF C hin kq dX6_init_6 fi_X6_9 ⟨_, _, _, rfl, rfl, rfl⟩ rfl rfl (nw_at hq) (Nat.le_of_ble_eq_true rfl) (nw_set hq) ?_
  refine x_wcast (ws2 := ws.set kq (a, .inr (6, [.int 8, .int 0, .null, .int 0])) ++ []) rfl ?_
  refine x_aload_n C 0 0 dX6_init_9 rfl rfl ?_
  refine x_iload_n C 2 2 dX6_init_10 rfl rfl ?_
  refine x_putF C hin kq dX6_init_11 fi_X6_15 ⟨_, _, _, rfl, rfl, rfl⟩ rfl rfl (nw_at hq) (Nat.le_of_ble_eq_true rfl) (nw_set hq) ?_
  refine x_wcast (ws2 := ws.set kq (a, .inr (6, [.int 8, .int 3, .null, .int 0])) ++ []) rfl ?_
  refine x_aload_n C 0 0 dX6_init_14 rfl rfl ?_
  refine x_iload_n C 1 1 dX6_init_15 rfl rfl ?_
  refine x_iload_n C 2 2 dX6_init_16 rfl rfl ?_
  refine x_imul C dX6_init_17 ?_
  refine x_if_cast (st2 := [.int 24, .ref a]) rfl ?_
  refine x_newaI C 24 dX6_init_18 ac_I (by decide) (by decide +kernel) (Nat.le_of_ble_eq_true rfl) ⟨Nat.le_of_ble_eq_true rfl, Nat.le_of_ble_eq_true rfl⟩ (fun q1 => ?_)
  refine x_wcast (ws2 := ws.set kq (a, .inr (6, [.int 8, .int 3, .null, .int 0])) ++ [(q1, .inl (K 0, (24, .inl (fun _ => 0))))]) (List.append_assoc _ _ _) ?_
  refine x_putF C hin kq dX6_init_20 fi_X6_18 ⟨_, _, _, rfl, rfl, rfl⟩ rfl rfl (nw_at hq) (Nat.le_of_ble_eq_true rfl) (nw_set hq) ?_
  refine x_wcast (ws2 := ws.set kq (a, .inr (6, [.int 8, .int 3, .ref q1, .int 0])) ++ [(q1, .inl (K 0, (24, .inl (fun _ => 0))))]) rfl ?_
  refine x_widen (k' := 1) (n' := 24) (Nat.le_of_ble_eq_true rfl) (Nat.le_of_ble_eq_true rfl) ?_
  exact x_vretw C dX6_init_23 rfl ⟨q1, rfl⟩
set_option maxHeartbeats 4000000 in
set_option maxRecDepth 100000 in
theorem c_X6_init_10_1 (l : Launch) (D : va_G) (K : Nat → ClassId) {ws : va_W} {a kq : Nat} (hq : ws[kq]? = some (a, .inr (6, [.int 0, .int 0, .null, .int 0]))) : CVw l D K yX6_init cX6_init 3 1 30 1 10 [.ref a, .int 10, .int 1] ws (fun w1 => ∃ q1 : Nat, w1 = ws.set kq (a, .inr (6, [.int 10, .int 1, .ref q1, .int 0])) ++ [(q1, .inl (K 0, (10, .inl (fun _ => 0))))]) := by
  refine x_enterw [(0, .ref a), (1, .int 10), (2, .int 1)] pnX6 (Nat.le_of_ble_eq_true rfl) rfl ?_
  intro p e s m args below meth c A C hin
  refine x_wcast (ws2 := ws.set kq (a, .inr (6, [.int 0, .int 0, .null, .int 0])) ++ []) (by rw [set_same hq, List.append_nil]) ?_
  refine x_aload_n C 0 0 dX6_init_0 rfl rfl ?_
  refine x_objInit C dX6_init_1 oi_X6_3 ⟨Nat.le_of_ble_eq_true rfl, Nat.le_of_ble_eq_true rfl⟩ ?_
  refine x_aload_n C 0 0 dX6_init_4 rfl rfl ?_
  refine x_iload_n C 1 1 dX6_init_5 rfl rfl ?_
  refine x_putF C hin kq dX6_init_6 fi_X6_9 ⟨_, _, _, rfl, rfl, rfl⟩ rfl rfl (nw_at hq) (Nat.le_of_ble_eq_true rfl) (nw_set hq) ?_
  refine x_wcast (ws2 := ws.set kq (a, .inr (6, [.int 10, .int 0, .null, .int 0])) ++ []) rfl ?_
  refine x_aload_n C 0 0 dX6_init_9 rfl rfl ?_
  refine x_iload_n C 2 2 dX6_init_10 rfl rfl ?_
  refine x_putF C hin kq dX6_init_11 fi_X6_15 ⟨_, _, _, rfl, rfl, rfl⟩ rfl rfl (nw_at hq) (Nat.le_of_ble_eq_true rfl) (nw_set hq) ?_
  refine x_wcast (ws2 := ws.set kq (a, .inr (6, [.int 10, .int 1, .null, .int 0])) ++ []) rfl ?_
  refine x_aload_n C 0 0 dX6_init_14 rfl rfl ?_
  refine x_iload_n C 1 1 dX6_init_15 rfl rfl ?_
  refine x_iload_n C 2 2 dX6_init_16 rfl rfl ?_
  refine x_imul C dX6_init_17 ?_
  refine x_if_cast (st2 := [.int 10, .ref a]) rfl ?_
  refine x_newaI C 10 dX6_init_18 ac_I (by decide) (by decide +kernel) (Nat.le_of_ble_eq_true rfl) ⟨Nat.le_of_ble_eq_true rfl, Nat.le_of_ble_eq_true rfl⟩ (fun q1 => ?_)
  refine x_wcast (ws2 := ws.set kq (a, .inr (6, [.int 10, .int 1, .null, .int 0])) ++ [(q1, .inl (K 0, (10, .inl (fun _ => 0))))]) (List.append_assoc _ _ _) ?_
  refine x_putF C hin kq dX6_init_20 fi_X6_18 ⟨_, _, _, rfl, rfl, rfl⟩ rfl rfl (nw_at hq) (Nat.le_of_ble_eq_true rfl) (nw_set hq) ?_
  refine x_wcast (ws2 := ws.set kq (a, .inr (6, [.int 10, .int 1, .ref q1, .int 0])) ++ [(q1, .inl (K 0, (10, .inl (fun _ => 0))))]) rfl ?_
  refine x_widen (k' := 1) (n' := 10) (Nat.le_of_ble_eq_true rfl) (Nat.le_of_ble_eq_true rfl) ?_
  exact x_vretw C dX6_init_23 rfl ⟨q1, rfl⟩
set_option maxHeartbeats 4000000 in
set_option maxRecDepth 100000 in
theorem c_X6_init_6_2 (l : Launch) (D : va_G) (K : Nat → ClassId) {ws : va_W} {a kq : Nat} (hq : ws[kq]? = some (a, .inr (6, [.int 0, .int 0, .null, .int 0]))) : CVw l D K yX6_init cX6_init 3 1 30 1 12 [.ref a, .int 6, .int 2] ws (fun w1 => ∃ q1 : Nat, w1 = ws.set kq (a, .inr (6, [.int 6, .int 2, .ref q1, .int 0])) ++ [(q1, .inl (K 0, (12, .inl (fun _ => 0))))]) := by
  refine x_enterw [(0, .ref a), (1, .int 6), (2, .int 2)] pnX6 (Nat.le_of_ble_eq_true rfl) rfl ?_
  intro p e s m args below meth c A C hin
  refine x_wcast (ws2 := ws.set kq (a, .inr (6, [.int 0, .int 0, .null, .int 0])) ++ []) (by rw [set_same hq, List.append_nil]) ?_
  refine x_aload_n C 0 0 dX6_init_0 rfl rfl ?_
  refine x_objInit C dX6_init_1 oi_X6_3 ⟨Nat.le_of_ble_eq_true rfl, Nat.le_of_ble_eq_true rfl⟩ ?_
  refine x_aload_n C 0 0 dX6_init_4 rfl rfl ?_
  refine x_iload_n C 1 1 dX6_init_5 rfl rfl ?_
  refine x_putF C hin kq dX6_init_6 fi_X6_9 ⟨_, _, _, rfl, rfl, rfl⟩ rfl rfl (nw_at hq) (Nat.le_of_ble_eq_true rfl) (nw_set hq) ?_
  refine x_wcast (ws2 := ws.set kq (a, .inr (6, [.int 6, .int 0, .null, .int 0])) ++ []) rfl ?_
  refine x_aload_n C 0 0 dX6_init_9 rfl rfl ?_
  refine x_iload_n C 2 2 dX6_init_10 rfl rfl ?_
  refine x_putF C hin kq dX6_init_11 fi_X6_15 ⟨_, _, _, rfl, rfl, rfl⟩ rfl rfl (nw_at hq) (Nat.le_of_ble_eq_true rfl) (nw_set hq) ?_
  refine x_wcast (ws2 := ws.set kq (a, .inr (6, [.int 6, .int 2, .null, .int 0])) ++ []) rfl ?_
  refine x_aload_n C 0 0 dX6_init_14 rfl rfl ?_
  refine x_iload_n C 1 1 dX6_init_15 rfl rfl ?_
  refine x_iload_n C 2 2 dX6_init_16 rfl rfl ?_
  refine x_imul C dX6_init_17 ?_
  refine x_if_cast (st2 := [.int 12, .ref a]) rfl ?_
  refine x_newaI C 12 dX6_init_18 ac_I (by decide) (by decide +kernel) (Nat.le_of_ble_eq_true rfl) ⟨Nat.le_of_ble_eq_true rfl, Nat.le_of_ble_eq_true rfl⟩ (fun q1 => ?_)
  refine x_wcast (ws2 := ws.set kq (a, .inr (6, [.int 6, .int 2, .null, .int 0])) ++ [(q1, .inl (K 0, (12, .inl (fun _ => 0))))]) (List.append_assoc _ _ _) ?_
  refine x_putF C hin kq dX6_init_20 fi_X6_18 ⟨_, _, _, rfl, rfl, rfl⟩ rfl rfl (nw_at hq) (Nat.le_of_ble_eq_true rfl) (nw_set hq) ?_
  refine x_wcast (ws2 := ws.set kq (a, .inr (6, [.int 6, .int 2, .ref q1, .int 0])) ++ [(q1, .inl (K 0, (12, .inl (fun _ => 0))))]) rfl ?_
  refine x_widen (k' := 1) (n' := 12) (Nat.le_of_ble_eq_true rfl) (Nat.le_of_ble_eq_true rfl) ?_
  exact x_vretw C dX6_init_23 rfl ⟨q1, rfl⟩
set_option maxHeartbeats 4000000 in
set_option maxRecDepth 100000 in
theorem c_X9_init (l : Launch) (D : va_G) (K : Nat → ClassId) {ws : va_W} {a kq : Nat} (hq : ws[kq]? = some (a, .inr (9, [.null, .null, .null, .int 0]))) : CVw l D K yX9_init cX9_init 1 1 30 3 1203 [.ref a] ws (fun w1 => ∃ q1 : Nat, ∃ q2 : Nat, ∃ q3 : Nat, w1 = ws.set kq (a, .inr (9, [.ref q1, .ref q2, .ref q3, .int 0])) ++ [(q1, .inl (K 0, (401, .inl (fun _ => 0)))), (q2, .inl (K 0, (401, .inl (fun _ => 0)))), (q3, .inl (K 0, (401, .inl (fun _ => 0))))]) := by
  refine x_enterw [(0, .ref a)] pnX9 (Nat.le_of_ble_eq_true rfl) rfl ?_
  intro p e s m args below meth c A C hin
  refine x_wcast (ws2 := ws.set kq (a, .inr (9, [.null, .null, .null, .int 0])) ++ []) (by rw [set_same hq, List.append_nil]) ?_
  refine x_aload_n C 0 0 dX9_init_0 rfl rfl ?_
  refine x_objInit C dX9_init_1 oi_X9_5 ⟨Nat.le_of_ble_eq_true rfl, Nat.le_of_ble_eq_true rfl⟩ ?_
  refine x_aload_n C 0 0 dX9_init_4 rfl rfl ?_
  refine x_sipush C 401 dX9_init_5 (by decide +kernel) ?_
  refine x_newaI C 401 dX9_init_8 ac_I (by decide) (by decide +kernel) (Nat.le_of_ble_eq_true rfl) ⟨Nat.le_of_ble_eq_true rfl, Nat.le_of_ble_eq_true rfl⟩ (fun q1 => ?_)
  refine x_wcast (ws2 := ws.set kq (a, .inr (9, [.null, .null, .null, .int 0])) ++ [(q1, .inl (K 0, (401, .inl (fun _ => 0))))]) (List.append_assoc _ _ _) ?_
  refine x_putF C hin kq dX9_init_10 fi_X9_11 ⟨_, _, _, rfl, rfl, rfl⟩ rfl rfl (nw_at hq) (Nat.le_of_ble_eq_true rfl) (nw_set hq) ?_
  refine x_wcast (ws2 := ws.set kq (a, .inr (9, [.ref q1, .null, .null, .int 0])) ++ [(q1, .inl (K 0, (401, .inl (fun _ => 0))))]) rfl ?_
  refine x_aload_n C 0 0 dX9_init_13 rfl rfl ?_
  refine x_sipush C 401 dX9_init_14 (by decide +kernel) ?_
  refine x_newaI C 401 dX9_init_17 ac_I (by decide) (by decide +kernel) (Nat.le_of_ble_eq_true rfl) ⟨Nat.le_of_ble_eq_true rfl, Nat.le_of_ble_eq_true rfl⟩ (fun q2 => ?_)
  refine x_wcast (ws2 := ws.set kq (a, .inr (9, [.ref q1, .null, .null, .int 0])) ++ [(q1, .inl (K 0, (401, .inl (fun _ => 0)))), (q2, .inl (K 0, (401, .inl (fun _ => 0))))]) (List.append_assoc _ _ _) ?_
  refine x_putF C hin kq dX9_init_19 fi_X9_15 ⟨_, _, _, rfl, rfl, rfl⟩ rfl rfl (nw_at hq) (Nat.le_of_ble_eq_true rfl) (nw_set hq) ?_
  refine x_wcast (ws2 := ws.set kq (a, .inr (9, [.ref q1, .ref q2, .null, .int 0])) ++ [(q1, .inl (K 0, (401, .inl (fun _ => 0)))), (q2, .inl (K 0, (401, .inl (fun _ => 0))))]) rfl ?_
  refine x_aload_n C 0 0 dX9_init_22 rfl rfl ?_
  refine x_sipush C 401 dX9_init_23 (by decide +kernel) ?_
  refine x_newaI C 401 dX9_init_26 ac_I (by decide) (by decide +kernel) (Nat.le_of_ble_eq_true rfl) ⟨Nat.le_of_ble_eq_true rfl, Nat.le_of_ble_eq_true rfl⟩ (fun q3 => ?_)
  refine x_wcast (ws2 := ws.set kq (a, .inr (9, [.ref q1, .ref q2, .null, .int 0])) ++ [(q1, .inl (K 0, (401, .inl (fun _ => 0)))), (q2, .inl (K 0, (401, .inl (fun _ => 0)))), (q3, .inl (K 0, (401, .inl (fun _ => 0))))]) (List.append_assoc _ _ _) ?_
  refine x_putF C hin kq dX9_init_28 fi_X9_18 ⟨_, _, _, rfl, rfl, rfl⟩ rfl rfl (nw_at hq) (Nat.le_of_ble_eq_true rfl) (nw_set hq) ?_
  refine x_wcast (ws2 := ws.set kq (a, .inr (9, [.ref q1, .ref q2, .ref q3, .int 0])) ++ [(q1, .inl (K 0, (401, .inl (fun _ => 0)))), (q2, .inl (K 0, (401, .inl (fun _ => 0)))), (q3, .inl (K 0, (401, .inl (fun _ => 0))))]) rfl ?_
  refine x_widen (k' := 3) (n' := 1203) (Nat.le_of_ble_eq_true rfl) (Nat.le_of_ble_eq_true rfl) ?_
  exact x_vretw C dX9_init_31 rfl ⟨q1, q2, q3, rfl⟩
set_option maxHeartbeats 4000000 in
set_option maxRecDepth 100000 in
theorem c_X7_init (l : Launch) (D : va_G) (K : Nat → ClassId) {ws : va_W} {a kq : Nat} (hq : ws[kq]? = some (a, .inr (7, [.null, .null, .null, .null, .null, .null, .null, .int 0, .int 0]))) : CVw l D K yX7_init cX7_init 1 2 52 12 164 [.ref a] ws (fun w1 => ∃ q1 : Nat, ∃ q2 : Nat, ∃ q4 : Nat, ∃ q5 : Nat, ∃ q7 : Nat, ∃ q8 : Nat, ∃ q10 : Nat, ∃ q11 : Nat, ∃ q13 : Nat, ∃ q14 : Nat, ∃ q16 : Nat, ∃ q17 : Nat, w1 = ws.set kq (a, .inr (7, [.ref q1, .ref q4, .ref q7, .ref q10, .ref q13, .ref q16, .ref q17, .int 0, .int ((-1))])) ++ [(q1, .inr (6, [.int 10, .int 5, .ref q2, .int 0])), (q2, .inl (K 0, (50, .inl (fun _ => 0)))), (q4, .inr (6, [.int 12, .int 3, .ref q5, .int 0])), (q5, .inl (K 0, (36, .inl (fun _ => 0)))), (q7, .inr (6, [.int 8, .int 3, .ref q8, .int 0])), (q8, .inl (K 0, (24, .inl (fun _ => 0)))), (q10, .inr (6, [.int 10, .int 1, .ref q11, .int 0])), (q11, .inl (K 0, (10, .inl (fun _ => 0)))), (q13, .inr (6, [.int 6, .int 2, .ref q14, .int 0])), (q14, .inl (K 0, (12, .inl (fun _ => 0)))), (q16, .inl (K 0, (6, .inl (upd (upd (upd (upd (upd (upd (fun _ => 0) 0 0) 1 0) 2 1) 3 0) 4 2) 5 10)))), (q17, .inl (K 3, (6, .inr (.inr (.inr (.inr (fun _ => none)))))))]) := by
  refine x_enterw [(0, .ref a)] pnX7 (Nat.le_of_ble_eq_true rfl) rfl ?_
  intro p e s m args below meth c A C hin
  refine x_wcast (ws2 := ws.set kq (a, .inr (7, [.null, .null, .null, .null, .null, .null, .null, .int 0, .int 0])) ++ []) (by rw [set_same hq, List.append_nil]) ?_
  refine x_aload_n C 0 0 dX7_init_0 rfl rfl ?_
  refine x_objInit C dX7_init_1 oi_X7_3 ⟨Nat.le_of_ble_eq_true rfl, Nat.le_of_ble_eq_true rfl⟩ ?_
  refine x_aload_n C 0 0 dX7_init_4 rfl rfl ?_
  refine x_new (ci := 6) (fs := [.int 0, .int 0, .null, .int 0]) (C1 := RX6) (T := TX6) (N := 4) C dX7_init_5 nl_X7_9.1 nl_X7_9.2.1 nl_X7_9.2.2 inX6 tyX6_ok rfl (by decide +kernel) ⟨Nat.le_of_ble_eq_true rfl, Nat.le_of_ble_eq_true rfl⟩ (fun q1 => ?_)
  refine x_wcast (ws2 := ws.set kq (a, .inr (7, [.null, .null, .null, .null, .null, .null, .null, .int 0, .int 0])) ++ [(q1, .inr (6, [.int 0, .int 0, .null, .int 0]))]) (List.append_assoc _ _ _) ?_
  refine x_dup C rfl dX7_init_8 ?_
  refine x_bipush C 10 dX7_init_9 (by decide +kernel) ?_
  refine x_iconst C 5 dX7_init_11 (by decide +kernel) ?_
  refine x_callIw (As := [.int 10, .int 5]) (rest := [.ref q1, .ref a]) C dX7_init_12 mi_X7_11 rfl rfl (Nat.le_of_ble_eq_true rfl) ⟨Nat.le_of_ble_eq_true rfl, Nat.le_of_ble_eq_true rfl⟩ ⟨Nat.le_of_ble_eq_true rfl, Nat.le_of_ble_eq_true rfl⟩ (c_X6_init_10_5 l D K (kq := ws.length + 0) (nw_tl rfl)) (fun w3 hw3 => ?_)
  obtain ⟨q2, rfl⟩ := hw3
  refine x_wcast (ws2 := ws.set kq (a, .inr (7, [.null, .null, .null, .null, .null, .null, .null, .int 0, .int 0])) ++ [(q1, .inr (6, [.int 10, .int 5, .ref q2, .int 0])), (q2, .inl (K 0, (50, .inl (fun _ => 0))))]) (by rw [nw_tlset, List.append_assoc]; rfl) ?_
  refine x_putF C hin kq dX7_init_15 fi_X7_14 ⟨_, _, _, rfl, rfl, rfl⟩ rfl rfl (nw_at hq) (Nat.le_of_ble_eq_true rfl) (nw_set hq) ?_
  refine x_wcast (ws2 := ws.set kq (a, .inr (7, [.ref q1, .null, .null, .null, .null, .null, .null, .int 0, .int 0])) ++ [(q1, .inr (6, [.int 10, .int 5, .ref q2, .int 0])), (q2, .inl (K 0, (50, .inl (fun _ => 0))))]) rfl ?_
  refine x_aload_n C 0 0 dX7_init_18 rfl rfl ?_
  refine x_new (ci := 6) (fs := [.int 0, .int 0, .null, .int 0]) (C1 := RX6) (T := TX6) (N := 4) C dX7_init_19 nl_X7_9.1 nl_X7_9.2.1 nl_X7_9.2.2 inX6 tyX6_ok rfl (by decide +kernel) ⟨Nat.le_of_ble_eq_true rfl, Nat.le_of_ble_eq_true rfl⟩ (fun q4 => ?_)
  refine x_wcast (ws2 := ws.set kq (a, .inr (7, [.ref q1, .null, .null, .null, .null, .null, .null, .int 0, .int 0])) ++ [(q1, .inr (6, [.int 10, .int 5, .ref q2, .int 0])), (q2, .inl (K 0, (50, .inl (fun _ => 0)))), (q4, .inr (6, [.int 0, .int 0, .null, .int 0]))]) (List.append_assoc _ _ _) ?_
  refine x_dup C rfl dX7_init_22 ?_
  refine x_bipush C 12 dX7_init_23 (by decide +kernel) ?_
  refine x_iconst C 3 dX7_init_25 (by decide +kernel) ?_
  refine x_callIw (As := [.int 12, .int 3]) (rest := [.ref q4, .ref a]) C dX7_init_26 mi_X7_11 rfl rfl (Nat.le_of_ble_eq_true rfl) ⟨Nat.le_of_ble_eq_true rfl, Nat.le_of_ble_eq_true rfl⟩ ⟨Nat.le_of_ble_eq_true rfl, Nat.le_of_ble_eq_true rfl⟩ (c_X6_init_12_3 l D K (kq := ws.length + 2) (nw_tl rfl)) (fun w6 hw6 => ?_)
  obtain ⟨q5, rfl⟩ := hw6
  refine x_wcast (ws2 := ws.set kq (a, .inr (7, [.ref q1, .null, .null, .null, .null, .null, .null, .int 0, .int 0])) ++ [(q1, .inr (6, [.int 10, .int 5, .ref q2, .int 0])), (q2, .inl (K 0, (50, .inl (fun _ => 0)))), (q4, .inr (6, [.int 12, .int 3, .ref q5, .int 0])), (q5, .inl (K 0, (36, .inl (fun _ => 0))))]) (by rw [nw_tlset, List.append_assoc]; rfl) ?_
  refine x_putF C hin kq dX7_init_29 fi_X7_20 ⟨_, _, _, rfl, rfl, rfl⟩ rfl rfl (nw_at hq) (Nat.le_of_ble_eq_true rfl) (nw_set hq) ?_
  refine x_wcast (ws2 := ws.set kq (a, .inr (7, [.ref q1, .ref q4, .null, .null, .null, .null, .null, .int 0, .int 0])) ++ [(q1, .inr (6, [.int 10, .int 5, .ref q2, .int 0])), (q2, .inl (K 0, (50, .inl (fun _ => 0)))), (q4, .inr (6, [.int 12, .int 3, .ref q5, .int 0])), (q5, .inl (K 0, (36, .inl (fun _ => 0))))]) rfl ?_
  refine x_aload_n C 0 0 dX7_init_32 rfl rfl ?_
  refine x_new (ci := 6) (fs := [.int 0, .int 0, .null, .int 0]) (C1 := RX6) (T := TX6) (N := 4) C dX7_init_33 nl_X7_9.1 nl_X7_9.2.1 nl_X7_9.2.2 inX6 tyX6_ok rfl (by decide +kernel) ⟨Nat.le_of_ble_eq_true rfl, Nat.le_of_ble_eq_true rfl⟩ (fun q7 => ?_)
  refine x_wcast (ws2 := ws.set kq (a, .inr (7, [.ref q1, .ref q4, .null, .null, .null, .null, .null, .int 0, .int 0])) ++ [(q1, .inr (6, [.int 10, .int 5, .ref q2, .int 0])), (q2, .inl (K 0, (50, .inl (fun _ => 0)))), (q4, .inr (6, [.int 12, .int 3, .ref q5, .int 0])), (q5, .inl (K 0, (36, .inl (fun _ => 0)))), (q7, .inr (6, [.int 0, .int 0, .null, .int 0]))]) (List.append_assoc _ _ _) ?_
  refine x_dup C rfl dX7_init_36 ?_
  refine x_bipush C 8 dX7_init_37 (by decide +kernel) ?_
  refine x_iconst C 3 dX7_init_39 (by decide +kernel) ?_
  refine x_callIw (As := [.int 8, .int 3]) (rest := [.ref q7, .ref a]) C dX7_init_40 mi_X7_11 rfl rfl (Nat.le_of_ble_eq_true rfl) ⟨Nat.le_of_ble_eq_true rfl, Nat.le_of_ble_eq_true rfl⟩ ⟨Nat.le_of_ble_eq_true rfl, Nat.le_of_ble_eq_true rfl⟩ (c_X6_init_8_3 l D K (kq := ws.length + 4) (nw_tl rfl)) (fun w9 hw9 => ?_)
  obtain ⟨q8, rfl⟩ := hw9
  refine x_wcast (ws2 := ws.set kq (a, .inr (7, [.ref q1, .ref q4, .null, .null, .null, .null, .null, .int 0, .int 0])) ++ [(q1, .inr (6, [.int 10, .int 5, .ref q2, .int 0])), (q2, .inl (K 0, (50, .inl (fun _ => 0)))), (q4, .inr (6, [.int 12, .int 3, .ref q5, .int 0])), (q5, .inl (K 0, (36, .inl (fun _ => 0)))), (q7, .inr (6, [.int 8, .int 3, .ref q8, .int 0])), (q8, .inl (K 0, (24, .inl (fun _ => 0))))]) (by rw [nw_tlset, List.append_assoc]; rfl) ?_
  refine x_putF C hin kq dX7_init_43 fi_X7_23 ⟨_, _, _, rfl, rfl, rfl⟩ rfl rfl (nw_at hq) (Nat.le_of_ble_eq_true rfl) (nw_set hq) ?_
  refine x_wcast (ws2 := ws.set kq (a, .inr (7, [.ref q1, .ref q4, .ref q7, .null, .null, .null, .null, .int 0, .int 0])) ++ [(q1, .inr (6, [.int 10, .int 5, .ref q2, .int 0])), (q2, .inl (K 0, (50, .inl (fun _ => 0)))), (q4, .inr (6, [.int 12, .int 3, .ref q5, .int 0])), (q5, .inl (K 0, (36, .inl (fun _ => 0)))), (q7, .inr (6, [.int 8, .int 3, .ref q8, .int 0])), (q8, .inl (K 0, (24, .inl (fun _ => 0))))]) rfl ?_
  refine x_aload_n C 0 0 dX7_init_46 rfl rfl ?_
  refine x_new (ci := 6) (fs := [.int 0, .int 0, .null, .int 0]) (C1 := RX6) (T := TX6) (N := 4) C dX7_init_47 nl_X7_9.1 nl_X7_9.2.1 nl_X7_9.2.2 inX6 tyX6_ok rfl (by decide +kernel) ⟨Nat.le_of_ble_eq_true rfl, Nat.le_of_ble_eq_true rfl⟩ (fun q10 => ?_)
  refine x_wcast (ws2 := ws.set kq (a, .inr (7, [.ref q1, .ref q4, .ref q7, .null, .null, .null, .null, .int 0, .int 0])) ++ [(q1, .inr (6, [.int 10, .int 5, .ref q2, .int 0])), (q2, .inl (K 0, (50, .inl (fun _ => 0)))), (q4, .inr (6, [.int 12, .int 3, .ref q5, .int 0])), (q5, .inl (K 0, (36, .inl (fun _ => 0)))), (q7, .inr (6, [.int 8, .int 3, .ref q8, .int 0])), (q8, .inl (K 0, (24, .inl (fun _ => 0)))), (q10, .inr (6, [.int 0, .int 0, .null, .int 0]))]) (List.append_assoc _ _ _) ?_
  refine x_dup C rfl dX7_init_50 ?_
  refine x_bipush C 10 dX7_init_51 (by decide +kernel) ?_
  refine x_iconst C 1 dX7_init_53 (by decide +kernel) ?_
  refine x_callIw (As := [.int 10, .int 1]) (rest := [.ref q10, .ref a]) C dX7_init_54 mi_X7_11 rfl rfl (Nat.le_of_ble_eq_true rfl) ⟨Nat.le_of_ble_eq_true rfl, Nat.le_of_ble_eq_true rfl⟩ ⟨Nat.le_of_ble_eq_true rfl, Nat.le_of_ble_eq_true rfl⟩ (c_X6_init_10_1 l D K (kq := ws.length + 6) (nw_tl rfl)) (fun w12 hw12 => ?_)
  obtain ⟨q11, rfl⟩ := hw12
  refine x_wcast (ws2 := ws.set kq (a, .inr (7, [.ref q1, .ref q4, .ref q7, .null, .null, .null, .null, .int 0, .int 0])) ++ [(q1, .inr (6, [.int 10, .int 5, .ref q2, .int 0])), (q2, .inl (K 0, (50, .inl (fun _ => 0)))), (q4, .inr (6, [.int 12, .int 3, .ref q5, .int 0])), (q5, .inl (K 0, (36, .inl (fun _ => 0)))), (q7, .inr (6, [.int 8, .int 3, .ref q8, .int 0])), (q8, .inl (K 0, (24, .inl (fun _ => 0)))), (q10, .inr (6, [.int 10, .int 1, .ref q11, .int 0])), (q11, .inl (K 0, (10, .inl (fun _ => 0))))]) (by rw [nw_tlset, List.append_assoc]; rfl) ?_
  refine x_putF C hin kq dX7_init_57 fi_X7_26 ⟨_, _, _, rfl, rfl, rfl⟩ rfl rfl (nw_at hq) (Nat.le_of_ble_eq_true rfl) (nw_set hq) ?_
  refine x_wcast (ws2 := ws.set kq (a, .inr (7, [.ref q1, .ref q4, .ref q7, .ref q10, .null, .null, .null, .int 0, .int 0])) ++ [(q1, .inr (6, [.int 10, .int 5, .ref q2, .int 0])), (q2, .inl (K 0, (50, .inl (fun _ => 0)))), (q4, .inr (6, [.int 12, .int 3, .ref q5, .int 0])), (q5, .inl (K 0, (36, .inl (fun _ => 0)))), (q7, .inr (6, [.int 8, .int 3, .ref q8, .int 0])), (q8, .inl (K 0, (24, .inl (fun _ => 0)))), (q10, .inr (6, [.int 10, .int 1, .ref q11, .int 0])), (q11, .inl (K 0, (10, .inl (fun _ => 0))))]) rfl ?_
  refine x_aload_n C 0 0 dX7_init_60 rfl rfl ?_
  refine x_new (ci := 6) (fs := [.int 0, .int 0, .null, .int 0]) (C1 := RX6) (T := TX6) (N := 4) C dX7_init_61 nl_X7_9.1 nl_X7_9.2.1 nl_X7_9.2.2 inX6 tyX6_ok rfl (by decide +kernel) ⟨Nat.le_of_ble_eq_true rfl, Nat.le_of_ble_eq_true rfl⟩ (fun q13 => ?_)
  refine x_wcast (ws2 := ws.set kq (a, .inr (7, [.ref q1, .ref q4, .ref q7, .ref q10, .null, .null, .null, .int 0, .int 0])) ++ [(q1, .inr (6, [.int 10, .int 5, .ref q2, .int 0])), (q2, .inl (K 0, (50, .inl (fun _ => 0)))), (q4, .inr (6, [.int 12, .int 3, .ref q5, .int 0])), (q5, .inl (K 0, (36, .inl (fun _ => 0)))), (q7, .inr (6, [.int 8, .int 3, .ref q8, .int 0])), (q8, .inl (K 0, (24, .inl (fun _ => 0)))), (q10, .inr (6, [.int 10, .int 1, .ref q11, .int 0])), (q11, .inl (K 0, (10, .inl (fun _ => 0)))), (q13, .inr (6, [.int 0, .int 0, .null, .int 0]))]) (List.append_assoc _ _ _) ?_
  refine x_dup C rfl dX7_init_64 ?_
  refine x_bipush C 6 dX7_init_65 (by decide +kernel) ?_
  refine x_iconst C 2 dX7_init_67 (by decide +kernel) ?_
  refine x_callIw (As := [.int 6, .int 2]) (rest := [.ref q13, .ref a]) C dX7_init_68 mi_X7_11 rfl rfl (Nat.le_of_ble_eq_true rfl) ⟨Nat.le_of_ble_eq_true rfl, Nat.le_of_ble_eq_true rfl⟩ ⟨Nat.le_of_ble_eq_true rfl, Nat.le_of_ble_eq_true rfl⟩ (c_X6_init_6_2 l D K (kq := ws.length + 8) (nw_tl rfl)) (fun w15 hw15 => ?_)
  obtain ⟨q14, rfl⟩ := hw15
  refine x_wcast (ws2 := ws.set kq (a, .inr (7, [.ref q1, .ref q4, .ref q7, .ref q10, .null, .null, .null, .int 0, .int 0])) ++ [(q1, .inr (6, [.int 10, .int 5, .ref q2, .int 0])), (q2, .inl (K 0, (50, .inl (fun _ => 0)))), (q4, .inr (6, [.int 12, .int 3, .ref q5, .int 0])), (q5, .inl (K 0, (36, .inl (fun _ => 0)))), (q7, .inr (6, [.int 8, .int 3, .ref q8, .int 0])), (q8, .inl (K 0, (24, .inl (fun _ => 0)))), (q10, .inr (6, [.int 10, .int 1, .ref q11, .int 0])), (q11, .inl (K 0, (10, .inl (fun _ => 0)))), (q13, .inr (6, [.int 6, .int 2, .ref q14, .int 0])), (q14, .inl (K 0, (12, .inl (fun _ => 0))))]) (by rw [nw_tlset, List.append_assoc]; rfl) ?_
  refine x_putF C hin kq dX7_init_71 fi_X7_29 ⟨_, _, _, rfl, rfl, rfl⟩ rfl rfl (nw_at hq) (Nat.le_of_ble_eq_true rfl) (nw_set hq) ?_
  refine x_wcast (ws2 := ws.set kq (a, .inr (7, [.ref q1, .ref q4, .ref q7, .ref q10, .ref q13, .null, .null, .int 0, .int 0])) ++ [(q1, .inr (6, [.int 10, .int 5, .ref q2, .int 0])), (q2, .inl (K 0, (50, .inl (fun _ => 0)))), (q4, .inr (6, [.int 12, .int 3, .ref q5, .int 0])), (q5, .inl (K 0, (36, .inl (fun _ => 0)))), (q7, .inr (6, [.int 8, .int 3, .ref q8, .int 0])), (q8, .inl (K 0, (24, .inl (fun _ => 0)))), (q10, .inr (6, [.int 10, .int 1, .ref q11, .int 0])), (q11, .inl (K 0, (10, .inl (fun _ => 0)))), (q13, .inr (6, [.int 6, .int 2, .ref q14, .int 0])), (q14, .inl (K 0, (12, .inl (fun _ => 0))))]) rfl ?_
  refine x_aload_n C 0 0 dX7_init_74 rfl rfl ?_
  refine x_bipush C 6 dX7_init_75 (by decide +kernel) ?_
  refine x_newaI C 6 dX7_init_77 ac_I (by decide) (by decide +kernel) (Nat.le_of_ble_eq_true rfl) ⟨Nat.le_of_ble_eq_true rfl, Nat.le_of_ble_eq_true rfl⟩ (fun q16 => ?_)
  refine x_wcast (ws2 := ws.set kq (a, .inr (7, [.ref q1, .ref q4, .ref q7, .ref q10, .ref q13, .null, .null, .int 0, .int 0])) ++ [(q1, .inr (6, [.int 10, .int 5, .ref q2, .int 0])), (q2, .inl (K 0, (50, .inl (fun _ => 0)))), (q4, .inr (6, [.int 12, .int 3, .ref q5, .int 0])), (q5, .inl (K 0, (36, .inl (fun _ => 0)))), (q7, .inr (6, [.int 8, .int 3, .ref q8, .int 0])), (q8, .inl (K 0, (24, .inl (fun _ => 0)))), (q10, .inr (6, [.int 10, .int 1, .ref q11, .int 0])), (q11, .inl (K 0, (10, .inl (fun _ => 0)))), (q13, .inr (6, [.int 6, .int 2, .ref q14, .int 0])), (q14, .inl (K 0, (12, .inl (fun _ => 0)))), (q16, .inl (K 0, (6, .inl (fun _ => 0))))]) (List.append_assoc _ _ _) ?_
  refine x_dup C rfl dX7_init_79 ?_
  refine x_iconst C 0 dX7_init_80 (by decide +kernel) ?_
  refine x_iconst C 0 dX7_init_81 (by decide +kernel) ?_
  refine x_iast C (z := ()) (ws.length + 10) dX7_init_82 (nw_tl rfl) (ck_ok (vp_in_dec (by decide +kernel))) nw_tlset (fun _ => ?_)
  refine x_wcast (ws2 := ws.set kq (a, .inr (7, [.ref q1, .ref q4, .ref q7, .ref q10, .ref q13, .null, .null, .int 0, .int 0])) ++ [(q1, .inr (6, [.int 10, .int 5, .ref q2, .int 0])), (q2, .inl (K 0, (50, .inl (fun _ => 0)))), (q4, .inr (6, [.int 12, .int 3, .ref q5, .int 0])), (q5, .inl (K 0, (36, .inl (fun _ => 0)))), (q7, .inr (6, [.int 8, .int 3, .ref q8, .int 0])), (q8, .inl (K 0, (24, .inl (fun _ => 0)))), (q10, .inr (6, [.int 10, .int 1, .ref q11, .int 0])), (q11, .inl (K 0, (10, .inl (fun _ => 0)))), (q13, .inr (6, [.int 6, .int 2, .ref q14, .int 0])), (q14, .inl (K 0, (12, .inl (fun _ => 0)))), (q16, .inl (K 0, (6, .inl (upd (fun _ => 0) 0 0))))]) rfl ?_
  refine x_dup C rfl dX7_init_83 ?_
  refine x_iconst C 1 dX7_init_84 (by decide +kernel) ?_
  refine x_iconst C 0 dX7_init_85 (by decide +kernel) ?_
  refine x_iast C (z := ()) (ws.length + 10) dX7_init_86 (nw_tl rfl) (ck_ok (vp_in_dec (by decide +kernel))) nw_tlset (fun _ => ?_)
  refine x_wcast (ws2 := ws.set kq (a, .inr (7, [.ref q1, .ref q4, .ref q7, .ref q10, .ref q13, .null, .null, .int 0, .int 0])) ++ [(q1, .inr (6, [.int 10, .int 5, .ref q2, .int 0])), (q2, .inl (K 0, (50, .inl (fun _ => 0)))), (q4, .inr (6, [.int 12, .int 3, .ref q5, .int 0])), (q5, .inl (K 0, (36, .inl (fun _ => 0)))), (q7, .inr (6, [.int 8, .int 3, .ref q8, .int 0])), (q8, .inl (K 0, (24, .inl (fun _ => 0)))), (q10, .inr (6, [.int 10, .int 1, .ref q11, .int 0])), (q11, .inl (K 0, (10, .inl (fun _ => 0)))), (q13, .inr (6, [.int 6, .int 2, .ref q14, .int 0])), (q14, .inl (K 0, (12, .inl (fun _ => 0)))), (q16, .inl (K 0, (6, .inl (upd (upd (fun _ => 0) 0 0) 1 0))))]) rfl ?_
  refine x_dup C rfl dX7_init_87 ?_
  refine x_iconst C 2 dX7_init_88 (by decide +kernel) ?_
  refine x_iconst C 1 dX7_init_89 (by decide +kernel) ?_
  refine x_iast C (z := ()) (ws.length + 10) dX7_init_90 (nw_tl rfl) (ck_ok (vp_in_dec (by decide +kernel))) nw_tlset (fun _ => ?_)
  refine x_wcast (ws2 := ws.set kq (a, .inr (7, [.ref q1, .ref q4, .ref q7, .ref q10, .ref q13, .null, .null, .int 0, .int 0])) ++ [(q1, .inr (6, [.int 10, .int 5, .ref q2, .int 0])), (q2, .inl (K 0, (50, .inl (fun _ => 0)))), (q4, .inr (6, [.int 12, .int 3, .ref q5, .int 0])), (q5, .inl (K 0, (36, .inl (fun _ => 0)))), (q7, .inr (6, [.int 8, .int 3, .ref q8, .int 0])), (q8, .inl (K 0, (24, .inl (fun _ => 0)))), (q10, .inr (6, [.int 10, .int 1, .ref q11, .int 0])), (q11, .inl (K 0, (10, .inl (fun _ => 0)))), (q13, .inr (6, [.int 6, .int 2, .ref q14, .int 0])), (q14, .inl (K 0, (12, .inl (fun _ => 0)))), (q16, .inl (K 0, (6, .inl (upd (upd (upd (fun _ => 0) 0 0) 1 0) 2 1))))]) rfl ?_
  refine x_dup C rfl dX7_init_91 ?_
  refine x_iconst C 3 dX7_init_92 (by decide +kernel) ?_
  refine x_iconst C 0 dX7_init_93 (by decide +kernel) ?_
  refine x_iast C (z := ()) (ws.length + 10) dX7_init_94 (nw_tl rfl) (ck_ok (vp_in_dec (by decide +kernel))) nw_tlset (fun _ => ?_)
  refine x_wcast (ws2 := ws.set kq (a, .inr (7, [.ref q1, .ref q4, .ref q7, .ref q10, .ref q13, .null, .null, .int 0, .int 0])) ++ [(q1, .inr (6, [.int 10, .int 5, .ref q2, .int 0])), (q2, .inl (K 0, (50, .inl (fun _ => 0)))), (q4, .inr (6, [.int 12, .int 3, .ref q5, .int 0])), (q5, .inl (K 0, (36, .inl (fun _ => 0)))), (q7, .inr (6, [.int 8, .int 3, .ref q8, .int 0])), (q8, .inl (K 0, (24, .inl (fun _ => 0)))), (q10, .inr (6, [.int 10, .int 1, .ref q11, .int 0])), (q11, .inl (K 0, (10, .inl (fun _ => 0)))), (q13, .inr (6, [.int 6, .int 2, .ref q14, .int 0])), (q14, .inl (K 0, (12, .inl (fun _ => 0)))), (q16, .inl (K 0, (6, .inl (upd (upd (upd (upd (fun _ => 0) 0 0) 1 0) 2 1) 3 0))))]) rfl ?_
  refine x_dup C rfl dX7_init_95 ?_
  refine x_iconst C 4 dX7_init_96 (by decide +kernel) ?_
  refine x_iconst C 2 dX7_init_97 (by decide +kernel) ?_
  refine x_iast C (z := ()) (ws.length + 10) dX7_init_98 (nw_tl rfl) (ck_ok (vp_in_dec (by decide +kernel))) nw_tlset (fun _ => ?_)
  refine x_wcast (ws2 := ws.set kq (a, .inr (7, [.ref q1, .ref q4, .ref q7, .ref q10, .ref q13, .null, .null, .int 0, .int 0])) ++ [(q1, .inr (6, [.int 10, .int 5, .ref q2, .int 0])), (q2, .inl (K 0, (50, .inl (fun _ => 0)))), (q4, .inr (6, [.int 12, .int 3, .ref q5, .int 0])), (q5, .inl (K 0, (36, .inl (fun _ => 0)))), (q7, .inr (6, [.int 8, .int 3, .ref q8, .int 0])), (q8, .inl (K 0, (24, .inl (fun _ => 0)))), (q10, .inr (6, [.int 10, .int 1, .ref q11, .int 0])), (q11, .inl (K 0, (10, .inl (fun _ => 0)))), (q13, .inr (6, [.int 6, .int 2, .ref q14, .int 0])), (q14, .inl (K 0, (12, .inl (fun _ => 0)))), (q16, .inl (K 0, (6, .inl (upd (upd (upd (upd (upd (fun _ => 0) 0 0) 1 0) 2 1) 3 0) 4 2))))]) rfl ?_
  refine x_dup C rfl dX7_init_99 ?_
  refine x_iconst C 5 dX7_init_100 (by decide +kernel) ?_
  refine x_bipush C 10 dX7_init_101 (by decide +kernel) ?_
  refine x_iast C (z := ()) (ws.length + 10) dX7_init_103 (nw_tl rfl) (ck_ok (vp_in_dec (by decide +kernel))) nw_tlset (fun _ => ?_)
  refine x_wcast (ws2 := ws.set kq (a, .inr (7, [.ref q1, .ref q4, .ref q7, .ref q10, .ref q13, .null, .null, .int 0, .int 0])) ++ [(q1, .inr (6, [.int 10, .int 5, .ref q2, .int 0])), (q2, .inl (K 0, (50, .inl (fun _ => 0)))), (q4, .inr (6, [.int 12, .int 3, .ref q5, .int 0])), (q5, .inl (K 0, (36, .inl (fun _ => 0)))), (q7, .inr (6, [.int 8, .int 3, .ref q8, .int 0])), (q8, .inl (K 0, (24, .inl (fun _ => 0)))), (q10, .inr (6, [.int 10, .int 1, .ref q11, .int 0])), (q11, .inl (K 0, (10, .inl (fun _ => 0)))), (q13, .inr (6, [.int 6, .int 2, .ref q14, .int 0])), (q14, .inl (K 0, (12, .inl (fun _ => 0)))), (q16, .inl (K 0, (6, .inl (upd (upd (upd (upd (upd (upd (fun _ => 0) 0 0) 1 0) 2 1) 3 0) 4 2) 5 10))))]) rfl ?_
  refine x_putF C hin kq dX7_init_104 fi_X7_32 ⟨_, _, _, rfl, rfl, rfl⟩ rfl rfl (nw_at hq) (Nat.le_of_ble_eq_true rfl) (nw_set hq) ?_
  refine x_wcast (ws2 := ws.set kq (a, .inr (7, [.ref q1, .ref q4, .ref q7, .ref q10, .ref q13, .ref q16, .null, .int 0, .int 0])) ++ [(q1, .inr (6, [.int 10, .int 5, .ref q2, .int 0])), (q2, .inl (K 0, (50, .inl (fun _ => 0)))), (q4, .inr (6, [.int 12, .int 3, .ref q5, .int 0])), (q5, .inl (K 0, (36, .inl (fun _ => 0)))), (q7, .inr (6, [.int 8, .int 3, .ref q8, .int 0])), (q8, .inl (K 0, (24, .inl (fun _ => 0)))), (q10, .inr (6, [.int 10, .int 1, .ref q11, .int 0])), (q11, .inl (K 0, (10, .inl (fun _ => 0)))), (q13, .inr (6, [.int 6, .int 2, .ref q14, .int 0])), (q14, .inl (K 0, (12, .inl (fun _ => 0)))), (q16, .inl (K 0, (6, .inl (upd (upd (upd (upd (upd (upd (fun _ => 0) 0 0) 1 0) 2 1) 3 0) 4 2) 5 10))))]) rfl ?_
  refine x_aload_n C 0 0 dX7_init_107 rfl rfl ?_
  refine x_bipush C 6 dX7_init_108 (by decide +kernel) ?_
  refine x_newqLaw C 6 dX7_init_110 kl_X7_36 (by decide) (by decide +kernel) (Nat.le_of_ble_eq_true rfl) ⟨Nat.le_of_ble_eq_true rfl, Nat.le_of_ble_eq_true rfl⟩ (fun q17 => ?_)
  refine x_wcast (ws2 := ws.set kq (a, .inr (7, [.ref q1, .ref q4, .ref q7, .ref q10, .ref q13, .ref q16, .null, .int 0, .int 0])) ++ [(q1, .inr (6, [.int 10, .int 5, .ref q2, .int 0])), (q2, .inl (K 0, (50, .inl (fun _ => 0)))), (q4, .inr (6, [.int 12, .int 3, .ref q5, .int 0])), (q5, .inl (K 0, (36, .inl (fun _ => 0)))), (q7, .inr (6, [.int 8, .int 3, .ref q8, .int 0])), (q8, .inl (K 0, (24, .inl (fun _ => 0)))), (q10, .inr (6, [.int 10, .int 1, .ref q11, .int 0])), (q11, .inl (K 0, (10, .inl (fun _ => 0)))), (q13, .inr (6, [.int 6, .int 2, .ref q14, .int 0])), (q14, .inl (K 0, (12, .inl (fun _ => 0)))), (q16, .inl (K 0, (6, .inl (upd (upd (upd (upd (upd (upd (fun _ => 0) 0 0) 1 0) 2 1) 3 0) 4 2) 5 10)))), (q17, .inl (K 3, (6, .inr (.inr (.inr (.inr (fun _ => none)))))))]) (List.append_assoc _ _ _) ?_
  refine x_putF C hin kq dX7_init_113 fi_X7_38 ⟨_, _, _, rfl, rfl, rfl⟩ rfl rfl (nw_at hq) (Nat.le_of_ble_eq_true rfl) (nw_set hq) ?_
  refine x_wcast (ws2 := ws.set kq (a, .inr (7, [.ref q1, .ref q4, .ref q7, .ref q10, .ref q13, .ref q16, .ref q17, .int 0, .int 0])) ++ [(q1, .inr (6, [.int 10, .int 5, .ref q2, .int 0])), (q2, .inl (K 0, (50, .inl (fun _ => 0)))), (q4, .inr (6, [.int 12, .int 3, .ref q5, .int 0])), (q5, .inl (K 0, (36, .inl (fun _ => 0)))), (q7, .inr (6, [.int 8, .int 3, .ref q8, .int 0])), (q8, .inl (K 0, (24, .inl (fun _ => 0)))), (q10, .inr (6, [.int 10, .int 1, .ref q11, .int 0])), (q11, .inl (K 0, (10, .inl (fun _ => 0)))), (q13, .inr (6, [.int 6, .int 2, .ref q14, .int 0])), (q14, .inl (K 0, (12, .inl (fun _ => 0)))), (q16, .inl (K 0, (6, .inl (upd (upd (upd (upd (upd (upd (fun _ => 0) 0 0) 1 0) 2 1) 3 0) 4 2) 5 10)))), (q17, .inl (K 3, (6, .inr (.inr (.inr (.inr (fun _ => none)))))))]) rfl ?_
  refine x_aload_n C 0 0 dX7_init_116 rfl rfl ?_
  refine x_iconst C (-1) dX7_init_117 (by decide +kernel) ?_
  refine x_put C kq dX7_init_118 fi_X7_42 ⟨_, _, _, rfl, rfl⟩ rfl rfl (nw_at hq) (Nat.le_of_ble_eq_true rfl) (nw_set hq) ?_
  refine x_wcast (ws2 := ws.set kq (a, .inr (7, [.ref q1, .ref q4, .ref q7, .ref q10, .ref q13, .ref q16, .ref q17, .int 0, .int ((-1))])) ++ [(q1, .inr (6, [.int 10, .int 5, .ref q2, .int 0])), (q2, .inl (K 0, (50, .inl (fun _ => 0)))), (q4, .inr (6, [.int 12, .int 3, .ref q5, .int 0])), (q5, .inl (K 0, (36, .inl (fun _ => 0)))), (q7, .inr (6, [.int 8, .int 3, .ref q8, .int 0])), (q8, .inl (K 0, (24, .inl (fun _ => 0)))), (q10, .inr (6, [.int 10, .int 1, .ref q11, .int 0])), (q11, .inl (K 0, (10, .inl (fun _ => 0)))), (q13, .inr (6, [.int 6, .int 2, .ref q14, .int 0])), (q14, .inl (K 0, (12, .inl (fun _ => 0)))), (q16, .inl (K 0, (6, .inl (upd (upd (upd (upd (upd (upd (fun _ => 0) 0 0) 1 0) 2 1) 3 0) 4 2) 5 10)))), (q17, .inl (K 3, (6, .inr (.inr (.inr (.inr (fun _ => none)))))))]) rfl ?_
  refine x_widen (k' := 12) (n' := 164) (Nat.le_of_ble_eq_true rfl) (Nat.le_of_ble_eq_true rfl) ?_
  exact x_vretw C dX7_init_121 rfl ⟨q1, q2, q4, q5, q7, q8, q10, q11, q13, q14, q16, q17, rfl⟩
set_option maxHeartbeats 4000000 in
set_option maxRecDepth 100000 in
theorem c_X0_init (l : Launch) (D : va_G) (K : Nat → ClassId) (b1 : Nat) {ws : va_W} {a kq : Nat} (hq : ws[kq]? = some (a, .inr (0, [.null, .null, .null, .int 0, .long 0]))) : CVw l D K yX0_init cX0_init 2 1 30 2 74 [.ref a, .ref b1] ws (fun w1 => ∃ q1 : Nat, ∃ q2 : Nat, w1 = ws.set kq (a, .inr (0, [.ref b1, .ref q1, .ref q2, .int 0, .long 0])) ++ [(q1, .inl (K 0, (10, .inl (fun _ => 0)))), (q2, .inl (K 1, (64, .inr (.inl (fun _ => 0)))))]) := by
  refine x_enterw [(0, .ref a), (1, .ref b1)] pnX0 (Nat.le_of_ble_eq_true rfl) rfl ?_
  intro p e s m args below meth c A C hin
  refine x_wcast (ws2 := ws.set kq (a, .inr (0, [.null, .null, .null, .int 0, .long 0])) ++ []) (by rw [set_same hq, List.append_nil]) ?_
  refine x_aload_n C 0 0 dX0_init_0 rfl rfl ?_
  refine x_objInit C dX0_init_1 oi_X0_3 ⟨Nat.le_of_ble_eq_true rfl, Nat.le_of_ble_eq_true rfl⟩ ?_
  refine x_aload_n C 0 0 dX0_init_4 rfl rfl ?_
  refine x_bipush C 10 dX0_init_5 (by decide +kernel) ?_
  refine x_newaI C 10 dX0_init_7 ac_I (by decide) (by decide +kernel) (Nat.le_of_ble_eq_true rfl) ⟨Nat.le_of_ble_eq_true rfl, Nat.le_of_ble_eq_true rfl⟩ (fun q1 => ?_)
  refine x_wcast (ws2 := ws.set kq (a, .inr (0, [.null, .null, .null, .int 0, .long 0])) ++ [(q1, .inl (K 0, (10, .inl (fun _ => 0))))]) (List.append_assoc _ _ _) ?_
  refine x_putF C hin kq dX0_init_9 fi_X0_11 ⟨_, _, _, rfl, rfl, rfl⟩ rfl rfl (nw_at hq) (Nat.le_of_ble_eq_true rfl) (nw_set hq) ?_
  refine x_wcast (ws2 := ws.set kq (a, .inr (0, [.null, .ref q1, .null, .int 0, .long 0])) ++ [(q1, .inl (K 0, (10, .inl (fun _ => 0))))]) rfl ?_
  refine x_aload_n C 0 0 dX0_init_12 rfl rfl ?_
  refine x_bipush C 64 dX0_init_13 (by decide +kernel) ?_
  refine x_newaJ C 64 dX0_init_15 ac_J (by decide) (by decide +kernel) (Nat.le_of_ble_eq_true rfl) ⟨Nat.le_of_ble_eq_true rfl, Nat.le_of_ble_eq_true rfl⟩ (fun q2 => ?_)
  refine x_wcast (ws2 := ws.set kq (a, .inr (0, [.null, .ref q1, .null, .int 0, .long 0])) ++ [(q1, .inl (K 0, (10, .inl (fun _ => 0)))), (q2, .inl (K 1, (64, .inr (.inl (fun _ => 0)))))]) (List.append_assoc _ _ _) ?_
  refine x_putF C hin kq dX0_init_17 fi_X0_17 ⟨_, _, _, rfl, rfl, rfl⟩ rfl rfl (nw_at hq) (Nat.le_of_ble_eq_true rfl) (nw_set hq) ?_
  refine x_wcast (ws2 := ws.set kq (a, .inr (0, [.null, .ref q1, .ref q2, .int 0, .long 0])) ++ [(q1, .inl (K 0, (10, .inl (fun _ => 0)))), (q2, .inl (K 1, (64, .inr (.inl (fun _ => 0)))))]) rfl ?_
  refine x_aload_n C 0 0 dX0_init_20 rfl rfl ?_
  refine x_aload_n C 1 1 dX0_init_21 rfl rfl ?_
  refine x_putF C hin kq dX0_init_22 fi_X0_21 ⟨_, _, _, rfl, rfl, rfl⟩ rfl rfl (nw_at hq) (Nat.le_of_ble_eq_true rfl) (nw_set hq) ?_
  refine x_wcast (ws2 := ws.set kq (a, .inr (0, [.ref b1, .ref q1, .ref q2, .int 0, .long 0])) ++ [(q1, .inl (K 0, (10, .inl (fun _ => 0)))), (q2, .inl (K 1, (64, .inr (.inl (fun _ => 0)))))]) rfl ?_
  refine x_widen (k' := 2) (n' := 74) (Nat.le_of_ble_eq_true rfl) (Nat.le_of_ble_eq_true rfl) ?_
  exact x_vretw C dX0_init_25 rfl ⟨q1, q2, rfl⟩
set_option maxHeartbeats 4000000 in
set_option maxRecDepth 100000 in
theorem c_X5_init (l : Launch) (D : va_G) (K : Nat → ClassId) {ws : va_W} {a kq : Nat} (hq : ws[kq]? = some (a, .inr (5, [.null, .null, .null, .null, .int 0, .int 0, .int 0, .int 0]))) : CVw l D K yX5_init cX5_init 1 2 50 7 1632 [.ref a] ws (fun w1 => ∃ q1 : Nat, ∃ q2 : Nat, ∃ q3 : Nat, ∃ q4 : Nat, ∃ q6 : Nat, ∃ q7 : Nat, ∃ q8 : Nat, w1 = ws.set kq (a, .inr (5, [.ref q1, .ref q6, .ref q7, .ref q8, .int 0, .int 0, .int 0, .int ((-1))])) ++ [(q1, .inr (9, [.ref q2, .ref q3, .ref q4, .int 0])), (q2, .inl (K 0, (401, .inl (fun _ => 0)))), (q3, .inl (K 0, (401, .inl (fun _ => 0)))), (q4, .inl (K 0, (401, .inl (fun _ => 0)))), (q6, .inl (K 0, (12, .inl (fun _ => 0)))), (q7, .inl (K 0, (13, .inl (fun _ => 0)))), (q8, .inl (K 0, (400, .inl (fun _ => 0))))]) := by
  refine x_enterw [(0, .ref a)] pnX5 (Nat.le_of_ble_eq_true rfl) rfl ?_
  intro p e s m args below meth c A C hin
  refine x_wcast (ws2 := ws.set kq (a, .inr (5, [.null, .null, .null, .null, .int 0, .int 0, .int 0, .int 0])) ++ []) (by rw [set_same hq, List.append_nil]) ?_
  refine x_aload_n C 0 0 dX5_init_0 rfl rfl ?_
  refine x_objInit C dX5_init_1 oi_X5_3 ⟨Nat.le_of_ble_eq_true rfl, Nat.le_of_ble_eq_true rfl⟩ ?_
  refine x_aload_n C 0 0 dX5_init_4 rfl rfl ?_
  refine x_new (ci := 9) (fs := [.null, .null, .null, .int 0]) (C1 := RX9) (T := TX9) (N := 4) C dX5_init_5 nl_X5_9.1 nl_X5_9.2.1 nl_X5_9.2.2 inX9 tyX9_ok rfl (by decide +kernel) ⟨Nat.le_of_ble_eq_true rfl, Nat.le_of_ble_eq_true rfl⟩ (fun q1 => ?_)
  refine x_wcast (ws2 := ws.set kq (a, .inr (5, [.null, .null, .null, .null, .int 0, .int 0, .int 0, .int 0])) ++ [(q1, .inr (9, [.null, .null, .null, .int 0]))]) (List.append_assoc _ _ _) ?_
  refine x_dup C rfl dX5_init_8 ?_
  refine x_callIw (As := []) (rest := [.ref q1, .ref a]) C dX5_init_9 mi_X5_11 rfl rfl (Nat.le_of_ble_eq_true rfl) ⟨Nat.le_of_ble_eq_true rfl, Nat.le_of_ble_eq_true rfl⟩ ⟨Nat.le_of_ble_eq_true rfl, Nat.le_of_ble_eq_true rfl⟩ (c_X9_init l D K (kq := ws.length + 0) (nw_tl rfl)) (fun w5 hw5 => ?_)
  obtain ⟨q2, q3, q4, rfl⟩ := hw5
  refine x_wcast (ws2 := ws.set kq (a, .inr (5, [.null, .null, .null, .null, .int 0, .int 0, .int 0, .int 0])) ++ [(q1, .inr (9, [.ref q2, .ref q3, .ref q4, .int 0])), (q2, .inl (K 0, (401, .inl (fun _ => 0)))), (q3, .inl (K 0, (401, .inl (fun _ => 0)))), (q4, .inl (K 0, (401, .inl (fun _ => 0))))]) (by rw [nw_tlset, List.append_assoc]; rfl) ?_
  refine x_putF C hin kq dX5_init_12 fi_X5_12 ⟨_, _, _, rfl, rfl, rfl⟩ rfl rfl (nw_at hq) (Nat.le_of_ble_eq_true rfl) (nw_set hq) ?_
  refine x_wcast (ws2 := ws.set kq (a, .inr (5, [.ref q1, .null, .null, .null, .int 0, .int 0, .int 0, .int 0])) ++ [(q1, .inr (9, [.ref q2, .ref q3, .ref q4, .int 0])), (q2, .inl (K 0, (401, .inl (fun _ => 0)))), (q3, .inl (K 0, (401, .inl (fun _ => 0)))), (q4, .inl (K 0, (401, .inl (fun _ => 0))))]) rfl ?_
  refine x_aload_n C 0 0 dX5_init_15 rfl rfl ?_
  refine x_bipush C 12 dX5_init_16 (by decide +kernel) ?_
  refine x_newaI C 12 dX5_init_18 ac_I (by decide) (by decide +kernel) (Nat.le_of_ble_eq_true rfl) ⟨Nat.le_of_ble_eq_true rfl, Nat.le_of_ble_eq_true rfl⟩ (fun q6 => ?_)
  refine x_wcast (ws2 := ws.set kq (a, .inr (5, [.ref q1, .null, .null, .null, .int 0, .int 0, .int 0, .int 0])) ++ [(q1, .inr (9, [.ref q2, .ref q3, .ref q4, .int 0])), (q2, .inl (K 0, (401, .inl (fun _ => 0)))), (q3, .inl (K 0, (401, .inl (fun _ => 0)))), (q4, .inl (K 0, (401, .inl (fun _ => 0)))), (q6, .inl (K 0, (12, .inl (fun _ => 0))))]) (List.append_assoc _ _ _) ?_
  refine x_putF C hin kq dX5_init_20 fi_X5_18 ⟨_, _, _, rfl, rfl, rfl⟩ rfl rfl (nw_at hq) (Nat.le_of_ble_eq_true rfl) (nw_set hq) ?_
  refine x_wcast (ws2 := ws.set kq (a, .inr (5, [.ref q1, .ref q6, .null, .null, .int 0, .int 0, .int 0, .int 0])) ++ [(q1, .inr (9, [.ref q2, .ref q3, .ref q4, .int 0])), (q2, .inl (K 0, (401, .inl (fun _ => 0)))), (q3, .inl (K 0, (401, .inl (fun _ => 0)))), (q4, .inl (K 0, (401, .inl (fun _ => 0)))), (q6, .inl (K 0, (12, .inl (fun _ => 0))))]) rfl ?_
  refine x_aload_n C 0 0 dX5_init_23 rfl rfl ?_
  refine x_bipush C 13 dX5_init_24 (by decide +kernel) ?_
  refine x_newaI C 13 dX5_init_26 ac_I (by decide) (by decide +kernel) (Nat.le_of_ble_eq_true rfl) ⟨Nat.le_of_ble_eq_true rfl, Nat.le_of_ble_eq_true rfl⟩ (fun q7 => ?_)
  refine x_wcast (ws2 := ws.set kq (a, .inr (5, [.ref q1, .ref q6, .null, .null, .int 0, .int 0, .int 0, .int 0])) ++ [(q1, .inr (9, [.ref q2, .ref q3, .ref q4, .int 0])), (q2, .inl (K 0, (401, .inl (fun _ => 0)))), (q3, .inl (K 0, (401, .inl (fun _ => 0)))), (q4, .inl (K 0, (401, .inl (fun _ => 0)))), (q6, .inl (K 0, (12, .inl (fun _ => 0)))), (q7, .inl (K 0, (13, .inl (fun _ => 0))))]) (List.append_assoc _ _ _) ?_
  refine x_putF C hin kq dX5_init_28 fi_X5_22 ⟨_, _, _, rfl, rfl, rfl⟩ rfl rfl (nw_at hq) (Nat.le_of_ble_eq_true rfl) (nw_set hq) ?_
  refine x_wcast (ws2 := ws.set kq (a, .inr (5, [.ref q1, .ref q6, .ref q7, .null, .int 0, .int 0, .int 0, .int 0])) ++ [(q1, .inr (9, [.ref q2, .ref q3, .ref q4, .int 0])), (q2, .inl (K 0, (401, .inl (fun _ => 0)))), (q3, .inl (K 0, (401, .inl (fun _ => 0)))), (q4, .inl (K 0, (401, .inl (fun _ => 0)))), (q6, .inl (K 0, (12, .inl (fun _ => 0)))), (q7, .inl (K 0, (13, .inl (fun _ => 0))))]) rfl ?_
  refine x_aload_n C 0 0 dX5_init_31 rfl rfl ?_
  refine x_sipush C 400 dX5_init_32 (by decide +kernel) ?_
  refine x_newaI C 400 dX5_init_35 ac_I (by decide) (by decide +kernel) (Nat.le_of_ble_eq_true rfl) ⟨Nat.le_of_ble_eq_true rfl, Nat.le_of_ble_eq_true rfl⟩ (fun q8 => ?_)
  refine x_wcast (ws2 := ws.set kq (a, .inr (5, [.ref q1, .ref q6, .ref q7, .null, .int 0, .int 0, .int 0, .int 0])) ++ [(q1, .inr (9, [.ref q2, .ref q3, .ref q4, .int 0])), (q2, .inl (K 0, (401, .inl (fun _ => 0)))), (q3, .inl (K 0, (401, .inl (fun _ => 0)))), (q4, .inl (K 0, (401, .inl (fun _ => 0)))), (q6, .inl (K 0, (12, .inl (fun _ => 0)))), (q7, .inl (K 0, (13, .inl (fun _ => 0)))), (q8, .inl (K 0, (400, .inl (fun _ => 0))))]) (List.append_assoc _ _ _) ?_
  refine x_putF C hin kq dX5_init_37 fi_X5_25 ⟨_, _, _, rfl, rfl, rfl⟩ rfl rfl (nw_at hq) (Nat.le_of_ble_eq_true rfl) (nw_set hq) ?_
  refine x_wcast (ws2 := ws.set kq (a, .inr (5, [.ref q1, .ref q6, .ref q7, .ref q8, .int 0, .int 0, .int 0, .int 0])) ++ [(q1, .inr (9, [.ref q2, .ref q3, .ref q4, .int 0])), (q2, .inl (K 0, (401, .inl (fun _ => 0)))), (q3, .inl (K 0, (401, .inl (fun _ => 0)))), (q4, .inl (K 0, (401, .inl (fun _ => 0)))), (q6, .inl (K 0, (12, .inl (fun _ => 0)))), (q7, .inl (K 0, (13, .inl (fun _ => 0)))), (q8, .inl (K 0, (400, .inl (fun _ => 0))))]) rfl ?_
  refine x_aload_n C 0 0 dX5_init_40 rfl rfl ?_
  refine x_iconst C (-1) dX5_init_41 (by decide +kernel) ?_
  refine x_put C kq dX5_init_42 fi_X5_28 ⟨_, _, _, rfl, rfl⟩ rfl rfl (nw_at hq) (Nat.le_of_ble_eq_true rfl) (nw_set hq) ?_
  refine x_wcast (ws2 := ws.set kq (a, .inr (5, [.ref q1, .ref q6, .ref q7, .ref q8, .int 0, .int 0, .int 0, .int ((-1))])) ++ [(q1, .inr (9, [.ref q2, .ref q3, .ref q4, .int 0])), (q2, .inl (K 0, (401, .inl (fun _ => 0)))), (q3, .inl (K 0, (401, .inl (fun _ => 0)))), (q4, .inl (K 0, (401, .inl (fun _ => 0)))), (q6, .inl (K 0, (12, .inl (fun _ => 0)))), (q7, .inl (K 0, (13, .inl (fun _ => 0)))), (q8, .inl (K 0, (400, .inl (fun _ => 0))))]) rfl ?_
  refine x_widen (k' := 7) (n' := 1632) (Nat.le_of_ble_eq_true rfl) (Nat.le_of_ble_eq_true rfl) ?_
  exact x_vretw C dX5_init_45 rfl ⟨q1, q2, q3, q4, q6, q7, q8, rfl⟩
set_option maxHeartbeats 4000000 in
set_option maxRecDepth 100000 in
theorem c_X10_init (l : Launch) (D : va_G) (K : Nat → ClassId) (b1 : Nat) (b2 : Nat) {ws : va_W} {a kq : Nat} (hq : ws[kq]? = some (a, .inr (10, [.null, .null, .null, .null, .null, .null]))) : CVw l D K yX10_init cX10_init 3 1 30 10 165 [.ref a, .ref b1, .ref b2] ws (fun w1 => ∃ q1 : Nat, ∃ q2 : Nat, ∃ r3 : Nat → Nat, ∃ q4 : Nat, ∃ q5 : Nat, w1 = ws.set kq (a, .inr (10, [.ref b1, .ref b2, .ref q1, .ref q2, .ref q4, .ref q5])) ++ [(q1, .inl (K 0, (21, .inl (fun _ => 0)))), (q2, .inl (K 5, (6, .inr (.inr (.inr (.inr (fun i => if i < 6 then some (r3 i) else none))))))), (r3 0, .inl (K 1, (21, .inr (.inl (fun _ => 0))))), (r3 1, .inl (K 1, (21, .inr (.inl (fun _ => 0))))), (r3 2, .inl (K 1, (21, .inr (.inl (fun _ => 0))))), (r3 3, .inl (K 1, (21, .inr (.inl (fun _ => 0))))), (r3 4, .inl (K 1, (21, .inr (.inl (fun _ => 0))))), (r3 5, .inl (K 1, (21, .inr (.inl (fun _ => 0))))), (q4, .inl (K 1, (6, .inr (.inl (fun _ => 0))))), (q5, .inl (K 0, (6, .inl (fun _ => 0))))]) := by
  refine x_enterw [(0, .ref a), (1, .ref b1), (2, .ref b2)] pnX10 (Nat.le_of_ble_eq_true rfl) rfl ?_
  intro p e s m args below meth c A C hin
  refine x_wcast (ws2 := ws.set kq (a, .inr (10, [.null, .null, .null, .null, .null, .null])) ++ []) (by rw [set_same hq, List.append_nil]) ?_
  refine x_aload_n C 0 0 dX10_init_0 rfl rfl ?_
  refine x_objInit C dX10_init_1 oi_X10_3 ⟨Nat.le_of_ble_eq_true rfl, Nat.le_of_ble_eq_true rfl⟩ ?_
  refine x_aload_n C 0 0 dX10_init_4 rfl rfl ?_
  refine x_bipush C 21 dX10_init_5 (by decide +kernel) ?_
  refine x_newaI C 21 dX10_init_7 ac_I (by decide) (by decide +kernel) (Nat.le_of_ble_eq_true rfl) ⟨Nat.le_of_ble_eq_true rfl, Nat.le_of_ble_eq_true rfl⟩ (fun q1 => ?_)
  refine x_wcast (ws2 := ws.set kq (a, .inr (10, [.null, .null, .null, .null, .null, .null])) ++ [(q1, .inl (K 0, (21, .inl (fun _ => 0))))]) (List.append_assoc _ _ _) ?_
  refine x_putF C hin kq dX10_init_9 fi_X10_9 ⟨_, _, _, rfl, rfl, rfl⟩ rfl rfl (nw_at hq) (Nat.le_of_ble_eq_true rfl) (nw_set hq) ?_
  refine x_wcast (ws2 := ws.set kq (a, .inr (10, [.null, .null, .ref q1, .null, .null, .null])) ++ [(q1, .inl (K 0, (21, .inl (fun _ => 0))))]) rfl ?_
  refine x_aload_n C 0 0 dX10_init_12 rfl rfl ?_
  refine x_bipush C 6 dX10_init_13 (by decide +kernel) ?_
  refine x_bipush C 21 dX10_init_15 (by decide +kernel) ?_
  refine x_mnaJ C 6 21 dX10_init_17 kl_X10_15 ac_J (by decide) (by decide) (by decide +kernel) (by decide +kernel) (Nat.le_of_ble_eq_true rfl) (Nat.le_of_ble_eq_true rfl) ⟨Nat.le_of_ble_eq_true rfl, Nat.le_of_ble_eq_true rfl⟩ (fun q2 r3 => ?_)
  refine x_wcast (ws2 := ws.set kq (a, .inr (10, [.null, .null, .ref q1, .null, .null, .null])) ++ [(q1, .inl (K 0, (21, .inl (fun _ => 0)))), (q2, .inl (K 5, (6, .inr (.inr (.inr (.inr (fun i => if i < 6 then some (r3 i) else none))))))), (r3 0, .inl (K 1, (21, .inr (.inl (fun _ => 0))))), (r3 1, .inl (K 1, (21, .inr (.inl (fun _ => 0))))), (r3 2, .inl (K 1, (21, .inr (.inl (fun _ => 0))))), (r3 3, .inl (K 1, (21, .inr (.inl (fun _ => 0))))), (r3 4, .inl (K 1, (21, .inr (.inl (fun _ => 0))))), (r3 5, .inl (K 1, (21, .inr (.inl (fun _ => 0)))))]) (List.append_assoc _ _ _) ?_
  refine x_putF C hin kq dX10_init_21 fi_X10_17 ⟨_, _, _, rfl, rfl, rfl⟩ rfl rfl (nw_at hq) (Nat.le_of_ble_eq_true rfl) (nw_set hq) ?_
  refine x_wcast (ws2 := ws.set kq (a, .inr (10, [.null, .null, .ref q1, .ref q2, .null, .null])) ++ [(q1, .inl (K 0, (21, .inl (fun _ => 0)))), (q2, .inl (K 5, (6, .inr (.inr (.inr (.inr (fun i => if i < 6 then some (r3 i) else none))))))), (r3 0, .inl (K 1, (21, .inr (.inl (fun _ => 0))))), (r3 1, .inl (K 1, (21, .inr (.inl (fun _ => 0))))), (r3 2, .inl (K 1, (21, .inr (.inl (fun _ => 0))))), (r3 3, .inl (K 1, (21, .inr (.inl (fun _ => 0))))), (r3 4, .inl (K 1, (21, .inr (.inl (fun _ => 0))))), (r3 5, .inl (K 1, (21, .inr (.inl (fun _ => 0)))))]) rfl ?_
  refine x_aload_n C 0 0 dX10_init_24 rfl rfl ?_
  refine x_bipush C 6 dX10_init_25 (by decide +kernel) ?_
  refine x_newaJ C 6 dX10_init_27 ac_J (by decide) (by decide +kernel) (Nat.le_of_ble_eq_true rfl) ⟨Nat.le_of_ble_eq_true rfl, Nat.le_of_ble_eq_true rfl⟩ (fun q4 => ?_)
  refine x_wcast (ws2 := ws.set kq (a, .inr (10, [.null, .null, .ref q1, .ref q2, .null, .null])) ++ [(q1, .inl (K 0, (21, .inl (fun _ => 0)))), (q2, .inl (K 5, (6, .inr (.inr (.inr (.inr (fun i => if i < 6 then some (r3 i) else none))))))), (r3 0, .inl (K 1, (21, .inr (.inl (fun _ => 0))))), (r3 1, .inl (K 1, (21, .inr (.inl (fun _ => 0))))), (r3 2, .inl (K 1, (21, .inr (.inl (fun _ => 0))))), (r3 3, .inl (K 1, (21, .inr (.inl (fun _ => 0))))), (r3 4, .inl (K 1, (21, .inr (.inl (fun _ => 0))))), (r3 5, .inl (K 1, (21, .inr (.inl (fun _ => 0))))), (q4, .inl (K 1, (6, .inr (.inl (fun _ => 0)))))]) (List.append_assoc _ _ _) ?_
  refine x_putF C hin kq dX10_init_29 fi_X10_20 ⟨_, _, _, rfl, rfl, rfl⟩ rfl rfl (nw_at hq) (Nat.le_of_ble_eq_true rfl) (nw_set hq) ?_
  refine x_wcast (ws2 := ws.set kq (a, .inr (10, [.null, .null, .ref q1, .ref q2, .ref q4, .null])) ++ [(q1, .inl (K 0, (21, .inl (fun _ => 0)))), (q2, .inl (K 5, (6, .inr (.inr (.inr (.inr (fun i => if i < 6 then some (r3 i) else none))))))), (r3 0, .inl (K 1, (21, .inr (.inl (fun _ => 0))))), (r3 1, .inl (K 1, (21, .inr (.inl (fun _ => 0))))), (r3 2, .inl (K 1, (21, .inr (.inl (fun _ => 0))))), (r3 3, .inl (K 1, (21, .inr (.inl (fun _ => 0))))), (r3 4, .inl (K 1, (21, .inr (.inl (fun _ => 0))))), (r3 5, .inl (K 1, (21, .inr (.inl (fun _ => 0))))), (q4, .inl (K 1, (6, .inr (.inl (fun _ => 0)))))]) rfl ?_
  refine x_aload_n C 0 0 dX10_init_32 rfl rfl ?_
  refine x_bipush C 6 dX10_init_33 (by decide +kernel) ?_
  refine x_newaI C 6 dX10_init_35 ac_I (by decide) (by decide +kernel) (Nat.le_of_ble_eq_true rfl) ⟨Nat.le_of_ble_eq_true rfl, Nat.le_of_ble_eq_true rfl⟩ (fun q5 => ?_)
  refine x_wcast (ws2 := ws.set kq (a, .inr (10, [.null, .null, .ref q1, .ref q2, .ref q4, .null])) ++ [(q1, .inl (K 0, (21, .inl (fun _ => 0)))), (q2, .inl (K 5, (6, .inr (.inr (.inr (.inr (fun i => if i < 6 then some (r3 i) else none))))))), (r3 0, .inl (K 1, (21, .inr (.inl (fun _ => 0))))), (r3 1, .inl (K 1, (21, .inr (.inl (fun _ => 0))))), (r3 2, .inl (K 1, (21, .inr (.inl (fun _ => 0))))), (r3 3, .inl (K 1, (21, .inr (.inl (fun _ => 0))))), (r3 4, .inl (K 1, (21, .inr (.inl (fun _ => 0))))), (r3 5, .inl (K 1, (21, .inr (.inl (fun _ => 0))))), (q4, .inl (K 1, (6, .inr (.inl (fun _ => 0))))), (q5, .inl (K 0, (6, .inl (fun _ => 0))))]) (List.append_assoc _ _ _) ?_
  refine x_putF C hin kq dX10_init_37 fi_X10_24 ⟨_, _, _, rfl, rfl, rfl⟩ rfl rfl (nw_at hq) (Nat.le_of_ble_eq_true rfl) (nw_set hq) ?_
  refine x_wcast (ws2 := ws.set kq (a, .inr (10, [.null, .null, .ref q1, .ref q2, .ref q4, .ref q5])) ++ [(q1, .inl (K 0, (21, .inl (fun _ => 0)))), (q2, .inl (K 5, (6, .inr (.inr (.inr (.inr (fun i => if i < 6 then some (r3 i) else none))))))), (r3 0, .inl (K 1, (21, .inr (.inl (fun _ => 0))))), (r3 1, .inl (K 1, (21, .inr (.inl (fun _ => 0))))), (r3 2, .inl (K 1, (21, .inr (.inl (fun _ => 0))))), (r3 3, .inl (K 1, (21, .inr (.inl (fun _ => 0))))), (r3 4, .inl (K 1, (21, .inr (.inl (fun _ => 0))))), (r3 5, .inl (K 1, (21, .inr (.inl (fun _ => 0))))), (q4, .inl (K 1, (6, .inr (.inl (fun _ => 0))))), (q5, .inl (K 0, (6, .inl (fun _ => 0))))]) rfl ?_
  refine x_aload_n C 0 0 dX10_init_40 rfl rfl ?_
  refine x_aload_n C 1 1 dX10_init_41 rfl rfl ?_
  refine x_putF C hin kq dX10_init_42 fi_X10_27 ⟨_, _, _, rfl, rfl, rfl⟩ rfl rfl (nw_at hq) (Nat.le_of_ble_eq_true rfl) (nw_set hq) ?_
  refine x_wcast (ws2 := ws.set kq (a, .inr (10, [.ref b1, .null, .ref q1, .ref q2, .ref q4, .ref q5])) ++ [(q1, .inl (K 0, (21, .inl (fun _ => 0)))), (q2, .inl (K 5, (6, .inr (.inr (.inr (.inr (fun i => if i < 6 then some (r3 i) else none))))))), (r3 0, .inl (K 1, (21, .inr (.inl (fun _ => 0))))), (r3 1, .inl (K 1, (21, .inr (.inl (fun _ => 0))))), (r3 2, .inl (K 1, (21, .inr (.inl (fun _ => 0))))), (r3 3, .inl (K 1, (21, .inr (.inl (fun _ => 0))))), (r3 4, .inl (K 1, (21, .inr (.inl (fun _ => 0))))), (r3 5, .inl (K 1, (21, .inr (.inl (fun _ => 0))))), (q4, .inl (K 1, (6, .inr (.inl (fun _ => 0))))), (q5, .inl (K 0, (6, .inl (fun _ => 0))))]) rfl ?_
  refine x_aload_n C 0 0 dX10_init_45 rfl rfl ?_
  refine x_aload_n C 2 2 dX10_init_46 rfl rfl ?_
  refine x_putF C hin kq dX10_init_47 fi_X10_31 ⟨_, _, _, rfl, rfl, rfl⟩ rfl rfl (nw_at hq) (Nat.le_of_ble_eq_true rfl) (nw_set hq) ?_
  refine x_wcast (ws2 := ws.set kq (a, .inr (10, [.ref b1, .ref b2, .ref q1, .ref q2, .ref q4, .ref q5])) ++ [(q1, .inl (K 0, (21, .inl (fun _ => 0)))), (q2, .inl (K 5, (6, .inr (.inr (.inr (.inr (fun i => if i < 6 then some (r3 i) else none))))))), (r3 0, .inl (K 1, (21, .inr (.inl (fun _ => 0))))), (r3 1, .inl (K 1, (21, .inr (.inl (fun _ => 0))))), (r3 2, .inl (K 1, (21, .inr (.inl (fun _ => 0))))), (r3 3, .inl (K 1, (21, .inr (.inl (fun _ => 0))))), (r3 4, .inl (K 1, (21, .inr (.inl (fun _ => 0))))), (r3 5, .inl (K 1, (21, .inr (.inl (fun _ => 0))))), (q4, .inl (K 1, (6, .inr (.inl (fun _ => 0))))), (q5, .inl (K 0, (6, .inl (fun _ => 0))))]) rfl ?_
  refine x_widen (k' := 10) (n' := 165) (Nat.le_of_ble_eq_true rfl) (Nat.le_of_ble_eq_true rfl) ?_
  exact x_vretw C dX10_init_50 rfl ⟨q1, q2, r3, q4, q5, rfl⟩
set_option maxHeartbeats 4000000 in
set_option maxRecDepth 100000 in
theorem c_X8_init (l : Launch) (D : va_G) (K : Nat → ClassId) (b1 : Nat) (b2 : Nat) {ws : va_W} {a kq : Nat} (hq : ws[kq]? = some (a, .inr (8, [.null, .null, .null, .null, .int 0, .int 0, .int 0]))) : CVw l D K yX8_init cX8_init 3 1 30 2 19830 [.ref a, .ref b1, .ref b2] ws (fun w1 => ∃ q1 : Nat, ∃ q2 : Nat, w1 = ws.set kq (a, .inr (8, [.ref b1, .ref b2, .ref q1, .ref q2, .int 0, .int 0, .int 0])) ++ [(q1, .inl (K 0, (10, .inl (fun _ => 0)))), (q2, .inl (K 0, (19820, .inl (fun _ => 0))))]) := by
  refine x_enterw [(0, .ref a), (1, .ref b1), (2, .ref b2)] pnX8 (Nat.le_of_ble_eq_true rfl) rfl ?_
  intro p e s m args below meth c A C hin
  refine x_wcast (ws2 := ws.set kq (a, .inr (8, [.null, .null, .null, .null, .int 0, .int 0, .int 0])) ++ []) (by rw [set_same hq, List.append_nil]) ?_
  refine x_aload_n C 0 0 dX8_init_0 rfl rfl ?_
  refine x_objInit C dX8_init_1 oi_X8_3 ⟨Nat.le_of_ble_eq_true rfl, Nat.le_of_ble_eq_true rfl⟩ ?_
  refine x_aload_n C 0 0 dX8_init_4 rfl rfl ?_
  refine x_bipush C 10 dX8_init_5 (by decide +kernel) ?_
  refine x_newaI C 10 dX8_init_7 ac_I (by decide) (by decide +kernel) (Nat.le_of_ble_eq_true rfl) ⟨Nat.le_of_ble_eq_true rfl, Nat.le_of_ble_eq_true rfl⟩ (fun q1 => ?_)
  refine x_wcast (ws2 := ws.set kq (a, .inr (8, [.null, .null, .null, .null, .int 0, .int 0, .int 0])) ++ [(q1, .inl (K 0, (10, .inl (fun _ => 0))))]) (List.append_assoc _ _ _) ?_
  refine x_putF C hin kq dX8_init_9 fi_X8_9 ⟨_, _, _, rfl, rfl, rfl⟩ rfl rfl (nw_at hq) (Nat.le_of_ble_eq_true rfl) (nw_set hq) ?_
  refine x_wcast (ws2 := ws.set kq (a, .inr (8, [.null, .null, .ref q1, .null, .int 0, .int 0, .int 0])) ++ [(q1, .inl (K 0, (10, .inl (fun _ => 0))))]) rfl ?_
  refine x_aload_n C 0 0 dX8_init_12 rfl rfl ?_
  refine x_sipush C 19820 dX8_init_13 (by decide +kernel) ?_
  refine x_newaI C 19820 dX8_init_16 ac_I (by decide) (by decide +kernel) (Nat.le_of_ble_eq_true rfl) ⟨Nat.le_of_ble_eq_true rfl, Nat.le_of_ble_eq_true rfl⟩ (fun q2 => ?_)
  refine x_wcast (ws2 := ws.set kq (a, .inr (8, [.null, .null, .ref q1, .null, .int 0, .int 0, .int 0])) ++ [(q1, .inl (K 0, (10, .inl (fun _ => 0)))), (q2, .inl (K 0, (19820, .inl (fun _ => 0))))]) (List.append_assoc _ _ _) ?_
  refine x_putF C hin kq dX8_init_18 fi_X8_15 ⟨_, _, _, rfl, rfl, rfl⟩ rfl rfl (nw_at hq) (Nat.le_of_ble_eq_true rfl) (nw_set hq) ?_
  refine x_wcast (ws2 := ws.set kq (a, .inr (8, [.null, .null, .ref q1, .ref q2, .int 0, .int 0, .int 0])) ++ [(q1, .inl (K 0, (10, .inl (fun _ => 0)))), (q2, .inl (K 0, (19820, .inl (fun _ => 0))))]) rfl ?_
  refine x_aload_n C 0 0 dX8_init_21 rfl rfl ?_
  refine x_aload_n C 1 1 dX8_init_22 rfl rfl ?_
  refine x_putF C hin kq dX8_init_23 fi_X8_18 ⟨_, _, _, rfl, rfl, rfl⟩ rfl rfl (nw_at hq) (Nat.le_of_ble_eq_true rfl) (nw_set hq) ?_
  refine x_wcast (ws2 := ws.set kq (a, .inr (8, [.ref b1, .null, .ref q1, .ref q2, .int 0, .int 0, .int 0])) ++ [(q1, .inl (K 0, (10, .inl (fun _ => 0)))), (q2, .inl (K 0, (19820, .inl (fun _ => 0))))]) rfl ?_
  refine x_aload_n C 0 0 dX8_init_26 rfl rfl ?_
  refine x_aload_n C 2 2 dX8_init_27 rfl rfl ?_
  refine x_putF C hin kq dX8_init_28 fi_X8_22 ⟨_, _, _, rfl, rfl, rfl⟩ rfl rfl (nw_at hq) (Nat.le_of_ble_eq_true rfl) (nw_set hq) ?_
  refine x_wcast (ws2 := ws.set kq (a, .inr (8, [.ref b1, .ref b2, .ref q1, .ref q2, .int 0, .int 0, .int 0])) ++ [(q1, .inl (K 0, (10, .inl (fun _ => 0)))), (q2, .inl (K 0, (19820, .inl (fun _ => 0))))]) rfl ?_
  refine x_widen (k' := 2) (n' := 19830) (Nat.le_of_ble_eq_true rfl) (Nat.le_of_ble_eq_true rfl) ?_
  exact x_vretw C dX8_init_31 rfl ⟨q1, q2, rfl⟩
set_option maxHeartbeats 4000000 in
set_option maxRecDepth 100000 in
theorem c_X3_init (l : Launch) (D : va_G) (K : Nat → ClassId) (b1 : Nat) (b2 : Nat) {ws : va_W} {a kq : Nat} (hq : ws[kq]? = some (a, .inr (3, [.null, .null, .null, .null]))) : CVw l D K yX3_init cX3_init 3 1 30 19 9313 [.ref a, .ref b1, .ref b2] ws (fun w1 => ∃ q1 : Nat, ∃ r2 : Nat → Nat, ∃ q3 : Nat, ∃ r4 : Nat → Nat, w1 = ws.set kq (a, .inr (3, [.ref b1, .ref b2, .ref q1, .ref q3])) ++ [(q1, .inl (K 4, (8, .inr (.inr (.inr (.inr (fun i => if i < 8 then some (r2 i) else none))))))), (r2 0, .inl (K 0, (10, .inl (fun _ => 0)))), (r2 1, .inl (K 0, (10, .inl (fun _ => 0)))), (r2 2, .inl (K 0, (10, .inl (fun _ => 0)))), (r2 3, .inl (K 0, (10, .inl (fun _ => 0)))), (r2 4, .inl (K 0, (10, .inl (fun _ => 0)))), (r2 5, .inl (K 0, (10, .inl (fun _ => 0)))), (r2 6, .inl (K 0, (10, .inl (fun _ => 0)))), (r2 7, .inl (K 0, (10, .inl (fun _ => 0)))), (q3, .inl (K 4, (9, .inr (.inr (.inr (.inr (fun i => if i < 9 then some (r4 i) else none))))))), (r4 0, .inl (K 0, (1024, .inl (fun _ => 0)))), (r4 1, .inl (K 0, (1024, .inl (fun _ => 0)))), (r4 2, .inl (K 0, (1024, .inl (fun _ => 0)))), (r4 3, .inl (K 0, (1024, .inl (fun _ => 0)))), (r4 4, .inl (K 0, (1024, .inl (fun _ => 0)))), (r4 5, .inl (K 0, (1024, .inl (fun _ => 0)))), (r4 6, .inl (K 0, (1024, .inl (fun _ => 0)))), (r4 7, .inl (K 0, (1024, .inl (fun _ => 0)))), (r4 8, .inl (K 0, (1024, .inl (fun _ => 0))))]) := by
  refine x_enterw [(0, .ref a), (1, .ref b1), (2, .ref b2)] pnX3 (Nat.le_of_ble_eq_true rfl) rfl ?_
  intro p e s m args below meth c A C hin
  refine x_wcast (ws2 := ws.set kq (a, .inr (3, [.null, .null, .null, .null])) ++ []) (by rw [set_same hq, List.append_nil]) ?_
  refine x_aload_n C 0 0 dX3_init_0 rfl rfl ?_
  refine x_objInit C dX3_init_1 oi_X3_3 ⟨Nat.le_of_ble_eq_true rfl, Nat.le_of_ble_eq_true rfl⟩ ?_
  refine x_aload_n C 0 0 dX3_init_4 rfl rfl ?_
  refine x_bipush C 8 dX3_init_5 (by decide +kernel) ?_
  refine x_bipush C 10 dX3_init_7 (by decide +kernel) ?_
  refine x_mnaI C 8 10 dX3_init_9 kl_X3_9 ac_I (by decide) (by decide) (by decide +kernel) (by decide +kernel) (Nat.le_of_ble_eq_true rfl) (Nat.le_of_ble_eq_true rfl) ⟨Nat.le_of_ble_eq_true rfl, Nat.le_of_ble_eq_true rfl⟩ (fun q1 r2 => ?_)
  refine x_wcast (ws2 := ws.set kq (a, .inr (3, [.null, .null, .null, .null])) ++ [(q1, .inl (K 4, (8, .inr (.inr (.inr (.inr (fun i => if i < 8 then some (r2 i) else none))))))), (r2 0, .inl (K 0, (10, .inl (fun _ => 0)))), (r2 1, .inl (K 0, (10, .inl (fun _ => 0)))), (r2 2, .inl (K 0, (10, .inl (fun _ => 0)))), (r2 3, .inl (K 0, (10, .inl (fun _ => 0)))), (r2 4, .inl (K 0, (10, .inl (fun _ => 0)))), (r2 5, .inl (K 0, (10, .inl (fun _ => 0)))), (r2 6, .inl (K 0, (10, .inl (fun _ => 0)))), (r2 7, .inl (K 0, (10, .inl (fun _ => 0))))]) (List.append_assoc _ _ _) ?_
  refine x_putF C hin kq dX3_init_13 fi_X3_11 ⟨_, _, _, rfl, rfl, rfl⟩ rfl rfl (nw_at hq) (Nat.le_of_ble_eq_true rfl) (nw_set hq) ?_
  refine x_wcast (ws2 := ws.set kq (a, .inr (3, [.null, .null, .ref q1, .null])) ++ [(q1, .inl (K 4, (8, .inr (.inr (.inr (.inr (fun i => if i < 8 then some (r2 i) else none))))))), (r2 0, .inl (K 0, (10, .inl (fun _ => 0)))), (r2 1, .inl (K 0, (10, .inl (fun _ => 0)))), (r2 2, .inl (K 0, (10, .inl (fun _ => 0)))), (r2 3, .inl (K 0, (10, .inl (fun _ => 0)))), (r2 4, .inl (K 0, (10, .inl (fun _ => 0)))), (r2 5, .inl (K 0, (10, .inl (fun _ => 0)))), (r2 6, .inl (K 0, (10, .inl (fun _ => 0)))), (r2 7, .inl (K 0, (10, .inl (fun _ => 0))))]) rfl ?_
  refine x_aload_n C 0 0 dX3_init_16 rfl rfl ?_
  refine x_bipush C 9 dX3_init_17 (by decide +kernel) ?_
  refine x_sipush C 1024 dX3_init_19 (by decide +kernel) ?_
  refine x_mnaI C 9 1024 dX3_init_22 kl_X3_9 ac_I (by decide) (by decide) (by decide +kernel) (by decide +kernel) (Nat.le_of_ble_eq_true rfl) (Nat.le_of_ble_eq_true rfl) ⟨Nat.le_of_ble_eq_true rfl, Nat.le_of_ble_eq_true rfl⟩ (fun q3 r4 => ?_)
  refine x_wcast (ws2 := ws.set kq (a, .inr (3, [.null, .null, .ref q1, .null])) ++ [(q1, .inl (K 4, (8, .inr (.inr (.inr (.inr (fun i => if i < 8 then some (r2 i) else none))))))), (r2 0, .inl (K 0, (10, .inl (fun _ => 0)))), (r2 1, .inl (K 0, (10, .inl (fun _ => 0)))), (r2 2, .inl (K 0, (10, .inl (fun _ => 0)))), (r2 3, .inl (K 0, (10, .inl (fun _ => 0)))), (r2 4, .inl (K 0, (10, .inl (fun _ => 0)))), (r2 5, .inl (K 0, (10, .inl (fun _ => 0)))), (r2 6, .inl (K 0, (10, .inl (fun _ => 0)))), (r2 7, .inl (K 0, (10, .inl (fun _ => 0)))), (q3, .inl (K 4, (9, .inr (.inr (.inr (.inr (fun i => if i < 9 then some (r4 i) else none))))))), (r4 0, .inl (K 0, (1024, .inl (fun _ => 0)))), (r4 1, .inl (K 0, (1024, .inl (fun _ => 0)))), (r4 2, .inl (K 0, (1024, .inl (fun _ => 0)))), (r4 3, .inl (K 0, (1024, .inl (fun _ => 0)))), (r4 4, .inl (K 0, (1024, .inl (fun _ => 0)))), (r4 5, .inl (K 0, (1024, .inl (fun _ => 0)))), (r4 6, .inl (K 0, (1024, .inl (fun _ => 0)))), (r4 7, .inl (K 0, (1024, .inl (fun _ => 0)))), (r4 8, .inl (K 0, (1024, .inl (fun _ => 0))))]) (List.append_assoc _ _ _) ?_
  refine x_putF C hin kq dX3_init_26 fi_X3_16 ⟨_, _, _, rfl, rfl, rfl⟩ rfl rfl (nw_at hq) (Nat.le_of_ble_eq_true rfl) (nw_set hq) ?_
  refine x_wcast (ws2 := ws.set kq (a, .inr (3, [.null, .null, .ref q1, .ref q3])) ++ [(q1, .inl (K 4, (8, .inr (.inr (.inr (.inr (fun i => if i < 8 then some (r2 i) else none))))))), (r2 0, .inl (K 0, (10, .inl (fun _ => 0)))), (r2 1, .inl (K 0, (10, .inl (fun _ => 0)))), (r2 2, .inl (K 0, (10, .inl (fun _ => 0)))), (r2 3, .inl (K 0, (10, .inl (fun _ => 0)))), (r2 4, .inl (K 0, (10, .inl (fun _ => 0)))), (r2 5, .inl (K 0, (10, .inl (fun _ => 0)))), (r2 6, .inl (K 0, (10, .inl (fun _ => 0)))), (r2 7, .inl (K 0, (10, .inl (fun _ => 0)))), (q3, .inl (K 4, (9, .inr (.inr (.inr (.inr (fun i => if i < 9 then some (r4 i) else none))))))), (r4 0, .inl (K 0, (1024, .inl (fun _ => 0)))), (r4 1, .inl (K 0, (1024, .inl (fun _ => 0)))), (r4 2, .inl (K 0, (1024, .inl (fun _ => 0)))), (r4 3, .inl (K 0, (1024, .inl (fun _ => 0)))), (r4 4, .inl (K 0, (1024, .inl (fun _ => 0)))), (r4 5, .inl (K 0, (1024, .inl (fun _ => 0)))), (r4 6, .inl (K 0, (1024, .inl (fun _ => 0)))), (r4 7, .inl (K 0, (1024, .inl (fun _ => 0)))), (r4 8, .inl (K 0, (1024, .inl (fun _ => 0))))]) rfl ?_
  refine x_aload_n C 0 0 dX3_init_29 rfl rfl ?_
  refine x_aload_n C 1 1 dX3_init_30 rfl rfl ?_
  refine x_putF C hin kq dX3_init_31 fi_X3_19 ⟨_, _, _, rfl, rfl, rfl⟩ rfl rfl (nw_at hq) (Nat.le_of_ble_eq_true rfl) (nw_set hq) ?_
  refine x_wcast (ws2 := ws.set kq (a, .inr (3, [.ref b1, .null, .ref q1, .ref q3])) ++ [(q1, .inl (K 4, (8, .inr (.inr (.inr (.inr (fun i => if i < 8 then some (r2 i) else none))))))), (r2 0, .inl (K 0, (10, .inl (fun _ => 0)))), (r2 1, .inl (K 0, (10, .inl (fun _ => 0)))), (r2 2, .inl (K 0, (10, .inl (fun _ => 0)))), (r2 3, .inl (K 0, (10, .inl (fun _ => 0)))), (r2 4, .inl (K 0, (10, .inl (fun _ => 0)))), (r2 5, .inl (K 0, (10, .inl (fun _ => 0)))), (r2 6, .inl (K 0, (10, .inl (fun _ => 0)))), (r2 7, .inl (K 0, (10, .inl (fun _ => 0)))), (q3, .inl (K 4, (9, .inr (.inr (.inr (.inr (fun i => if i < 9 then some (r4 i) else none))))))), (r4 0, .inl (K 0, (1024, .inl (fun _ => 0)))), (r4 1, .inl (K 0, (1024, .inl (fun _ => 0)))), (r4 2, .inl (K 0, (1024, .inl (fun _ => 0)))), (r4 3, .inl (K 0, (1024, .inl (fun _ => 0)))), (r4 4, .inl (K 0, (1024, .inl (fun _ => 0)))), (r4 5, .inl (K 0, (1024, .inl (fun _ => 0)))), (r4 6, .inl (K 0, (1024, .inl (fun _ => 0)))), (r4 7, .inl (K 0, (1024, .inl (fun _ => 0)))), (r4 8, .inl (K 0, (1024, .inl (fun _ => 0))))]) rfl ?_
  refine x_aload_n C 0 0 dX3_init_34 rfl rfl ?_
  refine x_aload_n C 2 2 dX3_init_35 rfl rfl ?_
  refine x_putF C hin kq dX3_init_36 fi_X3_23 ⟨_, _, _, rfl, rfl, rfl⟩ rfl rfl (nw_at hq) (Nat.le_of_ble_eq_true rfl) (nw_set hq) ?_
  refine x_wcast (ws2 := ws.set kq (a, .inr (3, [.ref b1, .ref b2, .ref q1, .ref q3])) ++ [(q1, .inl (K 4, (8, .inr (.inr (.inr (.inr (fun i => if i < 8 then some (r2 i) else none))))))), (r2 0, .inl (K 0, (10, .inl (fun _ => 0)))), (r2 1, .inl (K 0, (10, .inl (fun _ => 0)))), (r2 2, .inl (K 0, (10, .inl (fun _ => 0)))), (r2 3, .inl (K 0, (10, .inl (fun _ => 0)))), (r2 4, .inl (K 0, (10, .inl (fun _ => 0)))), (r2 5, .inl (K 0, (10, .inl (fun _ => 0)))), (r2 6, .inl (K 0, (10, .inl (fun _ => 0)))), (r2 7, .inl (K 0, (10, .inl (fun _ => 0)))), (q3, .inl (K 4, (9, .inr (.inr (.inr (.inr (fun i => if i < 9 then some (r4 i) else none))))))), (r4 0, .inl (K 0, (1024, .inl (fun _ => 0)))), (r4 1, .inl (K 0, (1024, .inl (fun _ => 0)))), (r4 2, .inl (K 0, (1024, .inl (fun _ => 0)))), (r4 3, .inl (K 0, (1024, .inl (fun _ => 0)))), (r4 4, .inl (K 0, (1024, .inl (fun _ => 0)))), (r4 5, .inl (K 0, (1024, .inl (fun _ => 0)))), (r4 6, .inl (K 0, (1024, .inl (fun _ => 0)))), (r4 7, .inl (K 0, (1024, .inl (fun _ => 0)))), (r4 8, .inl (K 0, (1024, .inl (fun _ => 0))))]) rfl ?_
  refine x_widen (k' := 19) (n' := 9313) (Nat.le_of_ble_eq_true rfl) (Nat.le_of_ble_eq_true rfl) ?_
  exact x_vretw C dX3_init_39 rfl ⟨q1, r2, q3, r4, rfl⟩
set_option maxHeartbeats 4000000 in
set_option maxRecDepth 100000 in
theorem c_X1_init (l : Launch) (D : va_G) (K : Nat → ClassId) (b1 : Nat) (b2 : Nat) {ws : va_W} {a kq : Nat} (hq : ws[kq]? = some (a, .inr (1, [.null, .null, .null, .null, .null, .null, .null, .int 0, .int 0, .int 0]))) : CVw l D K yX1_init cX1_init 3 1 30 9 118 [.ref a, .ref b1, .ref b2] ws (fun w1 => ∃ q1 : Nat, ∃ q2 : Nat, ∃ q3 : Nat, ∃ q4 : Nat, ∃ r5 : Nat → Nat, ∃ q6 : Nat, ∃ r7 : Nat → Nat, w1 = ws.set kq (a, .inr (1, [.ref b1, .ref b2, .ref q1, .ref q2, .ref q3, .ref q4, .ref q6, .int 0, .int 0, .int 0])) ++ [(q1, .inl (K 0, (10, .inl (fun _ => 0)))), (q2, .inl (K 0, (10, .inl (fun _ => 0)))), (q3, .inl (K 0, (10, .inl (fun _ => 0)))), (q4, .inl (K 4, (2, .inr (.inr (.inr (.inr (fun i => if i < 2 then some (r5 i) else none))))))), (r5 0, .inl (K 0, (21, .inl (fun _ => 0)))), (r5 1, .inl (K 0, (21, .inl (fun _ => 0)))), (q6, .inl (K 4, (2, .inr (.inr (.inr (.inr (fun i => if i < 2 then some (r7 i) else none))))))), (r7 0, .inl (K 0, (21, .inl (fun _ => 0)))), (r7 1, .inl (K 0, (21, .inl (fun _ => 0))))]) := by
  refine x_enterw [(0, .ref a), (1, .ref b1), (2, .ref b2)] pnX1 (Nat.le_of_ble_eq_true rfl) rfl ?_
  intro p e s m args below meth c A C hin
  refine x_wcast (ws2 := ws.set kq (a, .inr (1, [.null, .null, .null, .null, .null, .null, .null, .int 0, .int 0, .int 0])) ++ []) (by rw [set_same hq, List.append_nil]) ?_
  refine x_aload_n C 0 0 dX1_init_0 rfl rfl ?_
  refine x_objInit C dX1_init_1 oi_X1_3 ⟨Nat.le_of_ble_eq_true rfl, Nat.le_of_ble_eq_true rfl⟩ ?_
  refine x_aload_n C 0 0 dX1_init_4 rfl rfl ?_
  refine x_bipush C 10 dX1_init_5 (by decide +kernel) ?_
  refine x_newaI C 10 dX1_init_7 ac_I (by decide) (by decide +kernel) (Nat.le_of_ble_eq_true rfl) ⟨Nat.le_of_ble_eq_true rfl, Nat.le_of_ble_eq_true rfl⟩ (fun q1 => ?_)
  refine x_wcast (ws2 := ws.set kq (a, .inr (1, [.null, .null, .null, .null, .null, .null, .null, .int 0, .int 0, .int 0])) ++ [(q1, .inl (K 0, (10, .inl (fun _ => 0))))]) (List.append_assoc _ _ _) ?_
  refine x_putF C hin kq dX1_init_9 fi_X1_9 ⟨_, _, _, rfl, rfl, rfl⟩ rfl rfl (nw_at hq) (Nat.le_of_ble_eq_true rfl) (nw_set hq) ?_
  refine x_wcast (ws2 := ws.set kq (a, .inr (1, [.null, .null, .ref q1, .null, .null, .null, .null, .int 0, .int 0, .int 0])) ++ [(q1, .inl (K 0, (10, .inl (fun _ => 0))))]) rfl ?_
  refine x_aload_n C 0 0 dX1_init_12 rfl rfl ?_
  refine x_bipush C 10 dX1_init_13 (by decide +kernel) ?_
  refine x_newaI C 10 dX1_init_15 ac_I (by decide) (by decide +kernel) (Nat.le_of_ble_eq_true rfl) ⟨Nat.le_of_ble_eq_true rfl, Nat.le_of_ble_eq_true rfl⟩ (fun q2 => ?_)
  refine x_wcast (ws2 := ws.set kq (a, .inr (1, [.null, .null, .ref q1, .null, .null, .null, .null, .int 0, .int 0, .int 0])) ++ [(q1, .inl (K 0, (10, .inl (fun _ => 0)))), (q2, .inl (K 0, (10, .inl (fun _ => 0))))]) (List.append_assoc _ _ _) ?_
  refine x_putF C hin kq dX1_init_17 fi_X1_15 ⟨_, _, _, rfl, rfl, rfl⟩ rfl rfl (nw_at hq) (Nat.le_of_ble_eq_true rfl) (nw_set hq) ?_
  refine x_wcast (ws2 := ws.set kq (a, .inr (1, [.null, .null, .ref q1, .ref q2, .null, .null, .null, .int 0, .int 0, .int 0])) ++ [(q1, .inl (K 0, (10, .inl (fun _ => 0)))), (q2, .inl (K 0, (10, .inl (fun _ => 0))))]) rfl ?_
  refine x_aload_n C 0 0 dX1_init_20 rfl rfl ?_
  refine x_bipush C 10 dX1_init_21 (by decide +kernel) ?_
  refine x_newaI C 10 dX1_init_23 ac_I (by decide) (by decide +kernel) (Nat.le_of_ble_eq_true rfl) ⟨Nat.le_of_ble_eq_true rfl, Nat.le_of_ble_eq_true rfl⟩ (fun q3 => ?_)
  refine x_wcast (ws2 := ws.set kq (a, .inr (1, [.null, .null, .ref q1, .ref q2, .null, .null, .null, .int 0, .int 0, .int 0])) ++ [(q1, .inl (K 0, (10, .inl (fun _ => 0)))), (q2, .inl (K 0, (10, .inl (fun _ => 0)))), (q3, .inl (K 0, (10, .inl (fun _ => 0))))]) (List.append_assoc _ _ _) ?_
  refine x_putF C hin kq dX1_init_25 fi_X1_18 ⟨_, _, _, rfl, rfl, rfl⟩ rfl rfl (nw_at hq) (Nat.le_of_ble_eq_true rfl) (nw_set hq) ?_
  refine x_wcast (ws2 := ws.set kq (a, .inr (1, [.null, .null, .ref q1, .ref q2, .ref q3, .null, .null, .int 0, .int 0, .int 0])) ++ [(q1, .inl (K 0, (10, .inl (fun _ => 0)))), (q2, .inl (K 0, (10, .inl (fun _ => 0)))), (q3, .inl (K 0, (10, .inl (fun _ => 0))))]) rfl ?_
  refine x_aload_n C 0 0 dX1_init_28 rfl rfl ?_
  refine x_iconst C 2 dX1_init_29 (by decide +kernel) ?_
  refine x_bipush C 21 dX1_init_30 (by decide +kernel) ?_
  refine x_mnaI C 2 21 dX1_init_32 kl_X1_21 ac_I (by decide) (by decide) (by decide +kernel) (by decide +kernel) (Nat.le_of_ble_eq_true rfl) (Nat.le_of_ble_eq_true rfl) ⟨Nat.le_of_ble_eq_true rfl, Nat.le_of_ble_eq_true rfl⟩ (fun q4 r5 => ?_)
  refine x_wcast (ws2 := ws.set kq (a, .inr (1, [.null, .null, .ref q1, .ref q2, .ref q3, .null, .null, .int 0, .int 0, .int 0])) ++ [(q1, .inl (K 0, (10, .inl (fun _ => 0)))), (q2, .inl (K 0, (10, .inl (fun _ => 0)))), (q3, .inl (K 0, (10, .inl (fun _ => 0)))), (q4, .inl (K 4, (2, .inr (.inr (.inr (.inr (fun i => if i < 2 then some (r5 i) else none))))))), (r5 0, .inl (K 0, (21, .inl (fun _ => 0)))), (r5 1, .inl (K 0, (21, .inl (fun _ => 0))))]) (List.append_assoc _ _ _) ?_
  refine x_putF C hin kq dX1_init_36 fi_X1_23 ⟨_, _, _, rfl, rfl, rfl⟩ rfl rfl (nw_at hq) (Nat.le_of_ble_eq_true rfl) (nw_set hq) ?_
  refine x_wcast (ws2 := ws.set kq (a, .inr (1, [.null, .null, .ref q1, .ref q2, .ref q3, .ref q4, .null, .int 0, .int 0, .int 0])) ++ [(q1, .inl (K 0, (10, .inl (fun _ => 0)))), (q2, .inl (K 0, (10, .inl (fun _ => 0)))), (q3, .inl (K 0, (10, .inl (fun _ => 0)))), (q4, .inl (K 4, (2, .inr (.inr (.inr (.inr (fun i => if i < 2 then some (r5 i) else none))))))), (r5 0, .inl (K 0, (21, .inl (fun _ => 0)))), (r5 1, .inl (K 0, (21, .inl (fun _ => 0))))]) rfl ?_
  refine x_aload_n C 0 0 dX1_init_39 rfl rfl ?_
  refine x_iconst C 2 dX1_init_40 (by decide +kernel) ?_
  refine x_bipush C 21 dX1_init_41 (by decide +kernel) ?_
  refine x_mnaI C 2 21 dX1_init_43 kl_X1_21 ac_I (by decide) (by decide) (by decide +kernel) (by decide +kernel) (Nat.le_of_ble_eq_true rfl) (Nat.le_of_ble_eq_true rfl) ⟨Nat.le_of_ble_eq_true rfl, Nat.le_of_ble_eq_true rfl⟩ (fun q6 r7 => ?_)
  refine x_wcast (ws2 := ws.set kq (a, .inr (1, [.null, .null, .ref q1, .ref q2, .ref q3, .ref q4, .null, .int 0, .int 0, .int 0])) ++ [(q1, .inl (K 0, (10, .inl (fun _ => 0)))), (q2, .inl (K 0, (10, .inl (fun _ => 0)))), (q3, .inl (K 0, (10, .inl (fun _ => 0)))), (q4, .inl (K 4, (2, .inr (.inr (.inr (.inr (fun i => if i < 2 then some (r5 i) else none))))))), (r5 0, .inl (K 0, (21, .inl (fun _ => 0)))), (r5 1, .inl (K 0, (21, .inl (fun _ => 0)))), (q6, .inl (K 4, (2, .inr (.inr (.inr (.inr (fun i => if i < 2 then some (r7 i) else none))))))), (r7 0, .inl (K 0, (21, .inl (fun _ => 0)))), (r7 1, .inl (K 0, (21, .inl (fun _ => 0))))]) (List.append_assoc _ _ _) ?_
  refine x_putF C hin kq dX1_init_47 fi_X1_26 ⟨_, _, _, rfl, rfl, rfl⟩ rfl rfl (nw_at hq) (Nat.le_of_ble_eq_true rfl) (nw_set hq) ?_
  refine x_wcast (ws2 := ws.set kq (a, .inr (1, [.null, .null, .ref q1, .ref q2, .ref q3, .ref q4, .ref q6, .int 0, .int 0, .int 0])) ++ [(q1, .inl (K 0, (10, .inl (fun _ => 0)))), (q2, .inl (K 0, (10, .inl (fun _ => 0)))), (q3, .inl (K 0, (10, .inl (fun _ => 0)))), (q4, .inl (K 4, (2, .inr (.inr (.inr (.inr (fun i => if i < 2 then some (r5 i) else none))))))), (r5 0, .inl (K 0, (21, .inl (fun _ => 0)))), (r5 1, .inl (K 0, (21, .inl (fun _ => 0)))), (q6, .inl (K 4, (2, .inr (.inr (.inr (.inr (fun i => if i < 2 then some (r7 i) else none))))))), (r7 0, .inl (K 0, (21, .inl (fun _ => 0)))), (r7 1, .inl (K 0, (21, .inl (fun _ => 0))))]) rfl ?_
  refine x_aload_n C 0 0 dX1_init_50 rfl rfl ?_
  refine x_aload_n C 1 1 dX1_init_51 rfl rfl ?_
  refine x_putF C hin kq dX1_init_52 fi_X1_29 ⟨_, _, _, rfl, rfl, rfl⟩ rfl rfl (nw_at hq) (Nat.le_of_ble_eq_true rfl) (nw_set hq) ?_
  refine x_wcast (ws2 := ws.set kq (a, .inr (1, [.ref b1, .null, .ref q1, .ref q2, .ref q3, .ref q4, .ref q6, .int 0, .int 0, .int 0])) ++ [(q1, .inl (K 0, (10, .inl (fun _ => 0)))), (q2, .inl (K 0, (10, .inl (fun _ => 0)))), (q3, .inl (K 0, (10, .inl (fun _ => 0)))), (q4, .inl (K 4, (2, .inr (.inr (.inr (.inr (fun i => if i < 2 then some (r5 i) else none))))))), (r5 0, .inl (K 0, (21, .inl (fun _ => 0)))), (r5 1, .inl (K 0, (21, .inl (fun _ => 0)))), (q6, .inl (K 4, (2, .inr (.inr (.inr (.inr (fun i => if i < 2 then some (r7 i) else none))))))), (r7 0, .inl (K 0, (21, .inl (fun _ => 0)))), (r7 1, .inl (K 0, (21, .inl (fun _ => 0))))]) rfl ?_
  refine x_aload_n C 0 0 dX1_init_55 rfl rfl ?_
  refine x_aload_n C 2 2 dX1_init_56 rfl rfl ?_
  refine x_putF C hin kq dX1_init_57 fi_X1_33 ⟨_, _, _, rfl, rfl, rfl⟩ rfl rfl (nw_at hq) (Nat.le_of_ble_eq_true rfl) (nw_set hq) ?_
  refine x_wcast (ws2 := ws.set kq (a, .inr (1, [.ref b1, .ref b2, .ref q1, .ref q2, .ref q3, .ref q4, .ref q6, .int 0, .int 0, .int 0])) ++ [(q1, .inl (K 0, (10, .inl (fun _ => 0)))), (q2, .inl (K 0, (10, .inl (fun _ => 0)))), (q3, .inl (K 0, (10, .inl (fun _ => 0)))), (q4, .inl (K 4, (2, .inr (.inr (.inr (.inr (fun i => if i < 2 then some (r5 i) else none))))))), (r5 0, .inl (K 0, (21, .inl (fun _ => 0)))), (r5 1, .inl (K 0, (21, .inl (fun _ => 0)))), (q6, .inl (K 4, (2, .inr (.inr (.inr (.inr (fun i => if i < 2 then some (r7 i) else none))))))), (r7 0, .inl (K 0, (21, .inl (fun _ => 0)))), (r7 1, .inl (K 0, (21, .inl (fun _ => 0))))]) rfl ?_
  refine x_widen (k' := 9) (n' := 118) (Nat.le_of_ble_eq_true rfl) (Nat.le_of_ble_eq_true rfl) ?_
  exact x_vretw C dX1_init_60 rfl ⟨q1, q2, q3, q4, r5, q6, r7, rfl⟩
set_option maxHeartbeats 4000000 in
set_option maxRecDepth 100000 in
theorem c_X2_init (l : Launch) (D : va_G) (K : Nat → ClassId) (b1 : Nat) (b2 : Nat) (b3 : Nat) {ws : va_W} {a kq : Nat} (hq : ws[kq]? = some (a, .inr (2, [.null, .null, .null, .null, .null, .int 0, .int 0]))) : CVw l D K yX2_init cX2_init 4 1 30 2 20 [.ref a, .ref b1, .ref b2, .ref b3] ws (fun w1 => ∃ q1 : Nat, ∃ q2 : Nat, w1 = ws.set kq (a, .inr (2, [.ref b1, .ref b2, .ref b3, .ref q1, .ref q2, .int 0, .int 0])) ++ [(q1, .inl (K 0, (10, .inl (fillR (fun _ => 0) 0 10 ((-1)))))), (q2, .inl (K 0, (10, .inl (fillR (fun _ => 0) 0 10 ((-1))))))]) := by
  refine x_enterw [(0, .ref a), (1, .ref b1), (2, .ref b2), (3, .ref b3)] pnX2 (Nat.le_of_ble_eq_true rfl) rfl ?_
  intro p e s m args below meth c A C hin
  refine x_wcast (ws2 := ws.set kq (a, .inr (2, [.null, .null, .null, .null, .null, .int 0, .int 0])) ++ []) (by rw [set_same hq, List.append_nil]) ?_
  refine x_aload_n C 0 0 dX2_init_0 rfl rfl ?_
  refine x_objInit C dX2_init_1 oi_X2_3 ⟨Nat.le_of_ble_eq_true rfl, Nat.le_of_ble_eq_true rfl⟩ ?_
  refine x_aload_n C 0 0 dX2_init_4 rfl rfl ?_
  refine x_bipush C 10 dX2_init_5 (by decide +kernel) ?_
  refine x_newaI C 10 dX2_init_7 ac_I (by decide) (by decide +kernel) (Nat.le_of_ble_eq_true rfl) ⟨Nat.le_of_ble_eq_true rfl, Nat.le_of_ble_eq_true rfl⟩ (fun q1 => ?_)
  refine x_wcast (ws2 := ws.set kq (a, .inr (2, [.null, .null, .null, .null, .null, .int 0, .int 0])) ++ [(q1, .inl (K 0, (10, .inl (fun _ => 0))))]) (List.append_assoc _ _ _) ?_
  refine x_putF C hin kq dX2_init_9 fi_X2_9 ⟨_, _, _, rfl, rfl, rfl⟩ rfl rfl (nw_at hq) (Nat.le_of_ble_eq_true rfl) (nw_set hq) ?_
  refine x_wcast (ws2 := ws.set kq (a, .inr (2, [.null, .null, .null, .ref q1, .null, .int 0, .int 0])) ++ [(q1, .inl (K 0, (10, .inl (fun _ => 0))))]) rfl ?_
  refine x_aload_n C 0 0 dX2_init_12 rfl rfl ?_
  refine x_bipush C 10 dX2_init_13 (by decide +kernel) ?_
  refine x_newaI C 10 dX2_init_15 ac_I (by decide) (by decide +kernel) (Nat.le_of_ble_eq_true rfl) ⟨Nat.le_of_ble_eq_true rfl, Nat.le_of_ble_eq_true rfl⟩ (fun q2 => ?_)
  refine x_wcast (ws2 := ws.set kq (a, .inr (2, [.null, .null, .null, .ref q1, .null, .int 0, .int 0])) ++ [(q1, .inl (K 0, (10, .inl (fun _ => 0)))), (q2, .inl (K 0, (10, .inl (fun _ => 0))))]) (List.append_assoc _ _ _) ?_
  refine x_putF C hin kq dX2_init_17 fi_X2_15 ⟨_, _, _, rfl, rfl, rfl⟩ rfl rfl (nw_at hq) (Nat.le_of_ble_eq_true rfl) (nw_set hq) ?_
  refine x_wcast (ws2 := ws.set kq (a, .inr (2, [.null, .null, .null, .ref q1, .ref q2, .int 0, .int 0])) ++ [(q1, .inl (K 0, (10, .inl (fun _ => 0)))), (q2, .inl (K 0, (10, .inl (fun _ => 0))))]) rfl ?_
  refine x_aload_n C 0 0 dX2_init_20 rfl rfl ?_
  refine x_aload_n C 1 1 dX2_init_21 rfl rfl ?_
  refine x_putF C hin kq dX2_init_22 fi_X2_18 ⟨_, _, _, rfl, rfl, rfl⟩ rfl rfl (nw_at hq) (Nat.le_of_ble_eq_true rfl) (nw_set hq) ?_
  refine x_wcast (ws2 := ws.set kq (a, .inr (2, [.ref b1, .null, .null, .ref q1, .ref q2, .int 0, .int 0])) ++ [(q1, .inl (K 0, (10, .inl (fun _ => 0)))), (q2, .inl (K 0, (10, .inl (fun _ => 0))))]) rfl ?_
  refine x_aload_n C 0 0 dX2_init_25 rfl rfl ?_
  refine x_aload_n C 2 2 dX2_init_26 rfl rfl ?_
  refine x_putF C hin kq dX2_init_27 fi_X2_22 ⟨_, _, _, rfl, rfl, rfl⟩ rfl rfl (nw_at hq) (Nat.le_of_ble_eq_true rfl) (nw_set hq) ?_
  refine x_wcast (ws2 := ws.set kq (a, .inr (2, [.ref b1, .ref b2, .null, .ref q1, .ref q2, .int 0, .int 0])) ++ [(q1, .inl (K 0, (10, .inl (fun _ => 0)))), (q2, .inl (K 0, (10, .inl (fun _ => 0))))]) rfl ?_
  refine x_aload_n C 0 0 dX2_init_30 rfl rfl ?_
  refine x_aload_n C 3 3 dX2_init_31 rfl rfl ?_
  refine x_putF C hin kq dX2_init_32 fi_X2_26 ⟨_, _, _, rfl, rfl, rfl⟩ rfl rfl (nw_at hq) (Nat.le_of_ble_eq_true rfl) (nw_set hq) ?_
  refine x_wcast (ws2 := ws.set kq (a, .inr (2, [.ref b1, .ref b2, .ref b3, .ref q1, .ref q2, .int 0, .int 0])) ++ [(q1, .inl (K 0, (10, .inl (fun _ => 0)))), (q2, .inl (K 0, (10, .inl (fun _ => 0))))]) rfl ?_
  refine x_aload_n C 0 0 dX2_init_35 rfl rfl ?_
  refine x_get C kq dX2_init_36 fi_X2_9 (nw_at hq) rfl ?_
  refine x_iconst C (-1) dX2_init_39 (by decide +kernel) ?_
  refine x_fill2 C (ws.length + 0) dX2_init_40 wi_X2_30 ⟨Nat.le_of_ble_eq_true rfl, Nat.le_of_ble_eq_true rfl⟩ ⟨Nat.le_of_ble_eq_true rfl, Nat.le_of_ble_eq_true rfl⟩ (Nat.le_of_ble_eq_true rfl) (Nat.le_of_ble_eq_true rfl) (nw_tl rfl) nw_tlset ?_
  refine x_wcast (ws2 := ws.set kq (a, .inr (2, [.ref b1, .ref b2, .ref b3, .ref q1, .ref q2, .int 0, .int 0])) ++ [(q1, .inl (K 0, (10, .inl (fillR (fun _ => 0) 0 10 ((-1)))))), (q2, .inl (K 0, (10, .inl (fun _ => 0))))]) rfl ?_
  refine x_aload_n C 0 0 dX2_init_43 rfl rfl ?_
  refine x_get C kq dX2_init_44 fi_X2_15 (nw_at hq) rfl ?_
  refine x_iconst C (-1) dX2_init_47 (by decide +kernel) ?_
  refine x_fill2 C (ws.length + 1) dX2_init_48 wi_X2_30 ⟨Nat.le_of_ble_eq_true rfl, Nat.le_of_ble_eq_true rfl⟩ ⟨Nat.le_of_ble_eq_true rfl, Nat.le_of_ble_eq_true rfl⟩ (Nat.le_of_ble_eq_true rfl) (Nat.le_of_ble_eq_true rfl) (nw_tl rfl) nw_tlset ?_
  refine x_wcast (ws2 := ws.set kq (a, .inr (2, [.ref b1, .ref b2, .ref b3, .ref q1, .ref q2, .int 0, .int 0])) ++ [(q1, .inl (K 0, (10, .inl (fillR (fun _ => 0) 0 10 ((-1)))))), (q2, .inl (K 0, (10, .inl (fillR (fun _ => 0) 0 10 ((-1))))))]) rfl ?_
  refine x_widen (k' := 2) (n' := 20) (Nat.le_of_ble_eq_true rfl) (Nat.le_of_ble_eq_true rfl) ?_
  exact x_vretw C dX2_init_51 rfl ⟨q1, q2, rfl⟩
