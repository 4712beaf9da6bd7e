theorem dX11_as_0 : decode cX11_as 0 = .ok (.aload_n 0, 1) := by decide +kernel
theorem dX11_as_1 : decode cX11_as 1 = .ok (.iload_n 1, 1) := by decide +kernel
theorem dX11_as_2 : decode cX11_as 2 = .ok (.invokevirtual 111, 3) := by decide +kernel
theorem dX11_as_5 : decode cX11_as 5 = .ok (.ifCond .eq 10, 3) := by decide +kernel
theorem dX11_as_8 : decode cX11_as 8 = .ok (.iload_n 2, 1) := by decide +kernel
theorem dX11_as_9 : decode cX11_as 9 = .ok (.invokestatic 96, 3) := by decide +kernel
theorem dX11_as_12 : decode cX11_as 12 = .ok (.ifCond .ne 10, 3) := by decide +kernel
theorem dX11_as_15 : decode cX11_as 15 = .ok (.aload_n 0, 1) := by decide +kernel
theorem dX11_as_16 : decode cX11_as 16 = .ok (.ldc 81, 2) := by decide +kernel
theorem dX11_as_18 : decode cX11_as 18 = .ok (.invokevirtual 82, 3) := by decide +kernel
theorem dX11_as_21 : decode cX11_as 21 = .ok (.ireturn, 1) := by decide +kernel
theorem dX11_as_22 : decode cX11_as 22 = .ok (.aload_n 0, 1) := by decide +kernel
theorem dX11_as_23 : decode cX11_as 23 = .ok (.getfield 30, 3) := by decide +kernel
theorem dX11_as_26 : decode cX11_as 26 = .ok (.iload_n 1, 1) := by decide +kernel
theorem dX11_as_27 : decode cX11_as 27 = .ok (.invokevirtual 147, 3) := by decide +kernel
theorem dX11_as_30 : decode cX11_as 30 = .ok (.iload_n 2, 1) := by decide +kernel
theorem dX11_as_31 : decode cX11_as 31 = .ok (.invokevirtual 151, 3) := by decide +kernel
theorem dX11_as_34 : decode cX11_as 34 = .ok (.ifCond .ne 10, 3) := by decide +kernel
theorem dX11_as_37 : decode cX11_as 37 = .ok (.aload_n 0, 1) := by decide +kernel
theorem dX11_as_38 : decode cX11_as 38 = .ok (.ldc 154, 2) := by decide +kernel
theorem dX11_as_40 : decode cX11_as 40 = .ok (.invokevirtual 82, 3) := by decide +kernel
theorem dX11_as_43 : decode cX11_as 43 = .ok (.ireturn, 1) := by decide +kernel
theorem dX11_as_44 : decode cX11_as 44 = .ok (.aload_n 0, 1) := by decide +kernel
theorem dX11_as_45 : decode cX11_as 45 = .ok (.getfield 30, 3) := by decide +kernel
theorem dX11_as_48 : decode cX11_as 48 = .ok (.getfield 114, 3) := by decide +kernel
theorem dX11_as_51 : decode cX11_as 51 = .ok (.iload_n 1, 1) := by decide +kernel
theorem dX11_as_52 : decode cX11_as 52 = .ok (.aaload, 1) := by decide +kernel
theorem dX11_as_53 : decode cX11_as 53 = .ok (.getfield 123, 3) := by decide +kernel
theorem dX11_as_56 : decode cX11_as 56 = .ok (.ireturn, 1) := by decide +kernel
def k_X11_as_0 (F : FT) (Q : QT) : KT := o_aload 0 (o_iload 1 (o_cV 11 m_X11_isHouse 2 (o_ifeq (F 15) (o_iload 2 (o_cS m_X11_isKind 1 (o_ifne (F 22) (F 15)))))))
def k_X11_as_15 (F : FT) (Q : QT) : KT := o_aload 0 (o_ic (-1000000001) (o_cV 11 m_X11_finding 2 (o_iret Q)))
def k_X11_as_22 (F : FT) (Q : QT) : KT := o_aload 0 (o_getR 11 0 (o_iload 1 (o_cV 9 m_X9_lawOf 2 (o_iload 2 (o_cU f_isOf 2 (o_ifne (F 44) (o_aload 0 (o_ic (-1000000003) (o_cV 11 m_X11_finding 2 (o_iret Q))))))))))
def k_X11_as_44 (F : FT) (Q : QT) : KT := o_aload 0 (o_getR 11 0 (o_getR 9 2 (o_iload 1 (o_aald 4 (o_getI 2 1 (o_iret Q))))))
set_option maxRecDepth 20000 in
theorem r_X11_as {a0 : Nat} {a1 : Int32} {a2 : Int32} {n : Nat} {R : RR} {I : II} {J : JJ} {Q : QT} (hn : n + 0 ≤ 90) (h : ∀ F : FT, al_Wk F → al_Ok F (k_X11_as_0 F Q) 0 → al_Ok F (k_X11_as_15 F Q) 15 → al_Ok F (k_X11_as_22 F Q) 22 → al_Ok F (k_X11_as_44 F Q) 44 → F 0 [some (.ref a0), some (.int a1), some (.int a2)] [] n R I J) : CT m_X11_as 0 [.ref a0, .int a1, .int a2] n R I J Q :=
  CT.of (by decide) hn (fun _ => rfl) (fun _ => Nat.le_of_ble_eq_true rfl) (fun F p l e s m args below meth c Rm t Q0 C hQ hr hm => h F (fun _ _ _ _ _ _ _ _ => S_wk C)
    (S_aload_n C dX11_as_0 rfl (S_iload_n C dX11_as_1 rfl (S_cV (ci := 11) C ok_X11_isHouse rfl (al_at 369 (by decide +kernel) rfl) (Nat.le_of_ble_eq_true rfl) (Nat.le_of_ble_eq_true rfl) dX11_as_2 (S_ifeq (tgt := 15) C dX11_as_5 (by decide) (S_iload_n C dX11_as_8 rfl (S_cS C ok_X11_isKind (al_at 350 (by decide +kernel) rfl) (Nat.le_of_ble_eq_true rfl) (Nat.le_of_ble_eq_true rfl) dX11_as_9 (S_ifne (tgt := 22) C dX11_as_12 (by decide) (fun _ _ _ _ _ _ h9 => h9))))))))
    (S_aload_n C dX11_as_15 rfl (S_ldc C dX11_as_16 (al_at 328 (by decide +kernel) rfl) (S_cV (ci := 11) C ok_X11_finding rfl (al_at 329 (by decide +kernel) rfl) (Nat.le_of_ble_eq_true rfl) (Nat.le_of_ble_eq_true rfl) dX11_as_18 (S_iret C hQ hr dX11_as_21))))
    (S_aload_n C dX11_as_22 rfl (S_getR (ci := 11) (j := 0) C inG11 rfl (Nat.le_of_ble_eq_true rfl) rfl (al_at 289 (by decide +kernel) rfl) dX11_as_23 (S_iload_n C dX11_as_26 rfl (S_cV (ci := 9) C ok_X9_lawOf rfl (al_at 474 (by decide +kernel) rfl) (Nat.le_of_ble_eq_true rfl) (Nat.le_of_ble_eq_true rfl) dX11_as_27 (S_iload_n C dX11_as_30 rfl (S_cU (b0 := cX3_isOf) (m0 := 2) (r0 := (some .boolean)) C okU_isOf (al_at 478 (by decide +kernel) rfl) (al_at 476 (by decide +kernel) rfl) (al_at 499 (by decide +kernel) rfl) ⟨by decide, by decide⟩ (al_at 475 (by decide +kernel) rfl) (Nat.le_of_ble_eq_true rfl) (Nat.le_of_ble_eq_true rfl) dX11_as_31 (S_ifne (tgt := 44) C dX11_as_34 (by decide) (S_aload_n C dX11_as_37 rfl (S_ldc C dX11_as_38 (al_at 500 (by decide +kernel) rfl) (S_cV (ci := 11) C ok_X11_finding rfl (al_at 329 (by decide +kernel) rfl) (Nat.le_of_ble_eq_true rfl) (Nat.le_of_ble_eq_true rfl) dX11_as_40 (S_iret C hQ hr dX11_as_43)))))))))))
    (S_aload_n C dX11_as_44 rfl (S_getR (ci := 11) (j := 0) C inG11 rfl (Nat.le_of_ble_eq_true rfl) rfl (al_at 289 (by decide +kernel) rfl) dX11_as_45 (S_getR (ci := 9) (j := 2) C inG9 rfl (Nat.le_of_ble_eq_true rfl) rfl (al_at 178 (by decide +kernel) rfl) dX11_as_48 (S_iload_n C dX11_as_51 rfl (S_aald (ak := 4) C (fun _ _ _ _ _ _ => rfl) (fun _ => rfl) dX11_as_52 (S_getI (ci := 2) (j := 1) C inG2 rfl (Nat.le_of_ble_eq_true rfl) rfl (al_at 149 (by decide +kernel) rfl) dX11_as_53 (S_iret C hQ hr dX11_as_56))))))))
theorem dX11_at_0 : decode cX11_at 0 = .ok (.iload_n 1, 1) := by decide +kernel
theorem dX11_at_1 : decode cX11_at 1 = .ok (.invokestatic 74, 3) := by decide +kernel
theorem dX11_at_4 : decode cX11_at 4 = .ok (.ifCond .ne 10, 3) := by decide +kernel
theorem dX11_at_7 : decode cX11_at 7 = .ok (.aload_n 0, 1) := by decide +kernel
theorem dX11_at_8 : decode cX11_at 8 = .ok (.ldc 81, 2) := by decide +kernel
theorem dX11_at_10 : decode cX11_at 10 = .ok (.invokevirtual 82, 3) := by decide +kernel
theorem dX11_at_13 : decode cX11_at 13 = .ok (.ireturn, 1) := by decide +kernel
theorem dX11_at_14 : decode cX11_at 14 = .ok (.aload_n 0, 1) := by decide +kernel
theorem dX11_at_15 : decode cX11_at 15 = .ok (.getfield 30, 3) := by decide +kernel
theorem dX11_at_18 : decode cX11_at 18 = .ok (.getfield 86, 3) := by decide +kernel
theorem dX11_at_21 : decode cX11_at 21 = .ok (.iload_n 1, 1) := by decide +kernel
theorem dX11_at_22 : decode cX11_at 22 = .ok (.iaload, 1) := by decide +kernel
theorem dX11_at_23 : decode cX11_at 23 = .ok (.ireturn, 1) := by decide +kernel
def k_X11_at_0 (F : FT) (Q : QT) : KT := o_iload 1 (o_cS m_X11_isSquare 1 (o_ifne (F 14) (o_aload 0 (o_ic (-1000000001) (o_cV 11 m_X11_finding 2 (o_iret Q))))))
def k_X11_at_14 (F : FT) (Q : QT) : KT := o_aload 0 (o_getR 11 0 (o_getR 9 1 (o_iload 1 (o_iald (o_iret Q)))))
set_option maxRecDepth 20000 in
theorem r_X11_at {a0 : Nat} {a1 : Int32} {n : Nat} {R : RR} {I : II} {J : JJ} {Q : QT} (hn : n + 0 ≤ 90) (h : ∀ F : FT, al_Wk F → al_Ok F (k_X11_at_0 F Q) 0 → al_Ok F (k_X11_at_14 F Q) 14 → F 0 [some (.ref a0), some (.int a1)] [] n R I J) : CT m_X11_at 0 [.ref a0, .int a1] n R I J Q :=
  CT.of (by decide) hn (fun _ => rfl) (fun _ => Nat.le_of_ble_eq_true rfl) (fun F p l e s m args below meth c Rm t Q0 C hQ hr hm => h F (fun _ _ _ _ _ _ _ _ => S_wk C)
    (S_iload_n C dX11_at_0 rfl (S_cS C ok_X11_isSquare (al_at 321 (by decide +kernel) rfl) (Nat.le_of_ble_eq_true rfl) (Nat.le_of_ble_eq_true rfl) dX11_at_1 (S_ifne (tgt := 14) C dX11_at_4 (by decide) (S_aload_n C dX11_at_7 rfl (S_ldc C dX11_at_8 (al_at 328 (by decide +kernel) rfl) (S_cV (ci := 11) C ok_X11_finding rfl (al_at 329 (by decide +kernel) rfl) (Nat.le_of_ble_eq_true rfl) (Nat.le_of_ble_eq_true rfl) dX11_at_10 (S_iret C hQ hr dX11_at_13)))))))
    (S_aload_n C dX11_at_14 rfl (S_getR (ci := 11) (j := 0) C inG11 rfl (Nat.le_of_ble_eq_true rfl) rfl (al_at 289 (by decide +kernel) rfl) dX11_at_15 (S_getR (ci := 9) (j := 1) C inG9 rfl (Nat.le_of_ble_eq_true rfl) rfl (al_at 175 (by decide +kernel) rfl) dX11_at_18 (S_iload_n C dX11_at_21 rfl (S_iald C dX11_at_22 (S_iret C hQ hr dX11_at_23)))))))
theorem dX11_copy_0 : decode cX11_copy 0 = .ok (.iload_n 1, 1) := by decide +kernel
theorem dX11_copy_1 : decode cX11_copy 1 = .ok (.invokestatic 220, 3) := by decide +kernel
theorem dX11_copy_4 : decode cX11_copy 4 = .ok (.ifCond .eq 10, 3) := by decide +kernel
theorem dX11_copy_7 : decode cX11_copy 7 = .ok (.iload_n 3, 1) := by decide +kernel
theorem dX11_copy_8 : decode cX11_copy 8 = .ok (.invokestatic 220, 3) := by decide +kernel
theorem dX11_copy_11 : decode cX11_copy 11 = .ok (.ifCond .ne 10, 3) := by decide +kernel
theorem dX11_copy_14 : decode cX11_copy 14 = .ok (.aload_n 0, 1) := by decide +kernel
theorem dX11_copy_15 : decode cX11_copy 15 = .ok (.ldc 81, 2) := by decide +kernel
theorem dX11_copy_17 : decode cX11_copy 17 = .ok (.invokevirtual 82, 3) := by decide +kernel
theorem dX11_copy_20 : decode cX11_copy 20 = .ok (.ireturn, 1) := by decide +kernel
theorem dX11_copy_21 : decode cX11_copy 21 = .ok (.aload_n 0, 1) := by decide +kernel
theorem dX11_copy_22 : decode cX11_copy 22 = .ok (.getfield 59, 3) := by decide +kernel
theorem dX11_copy_25 : decode cX11_copy 25 = .ok (.iload_n 1, 1) := by decide +kernel
theorem dX11_copy_26 : decode cX11_copy 26 = .ok (.aaload, 1) := by decide +kernel
theorem dX11_copy_27 : decode cX11_copy 27 = .ok (.astore 6, 2) := by decide +kernel
theorem dX11_copy_29 : decode cX11_copy 29 = .ok (.aload_n 0, 1) := by decide +kernel
theorem dX11_copy_30 : decode cX11_copy 30 = .ok (.getfield 59, 3) := by decide +kernel
theorem dX11_copy_33 : decode cX11_copy 33 = .ok (.iload_n 3, 1) := by decide +kernel
theorem dX11_copy_34 : decode cX11_copy 34 = .ok (.aaload, 1) := by decide +kernel
theorem dX11_copy_35 : decode cX11_copy 35 = .ok (.astore 7, 2) := by decide +kernel
theorem dX11_copy_37 : decode cX11_copy 37 = .ok (.aload 6, 2) := by decide +kernel
theorem dX11_copy_39 : decode cX11_copy 39 = .ok (.invokevirtual 230, 3) := by decide +kernel
theorem dX11_copy_42 : decode cX11_copy 42 = .ok (.ifCond .ne 11, 3) := by decide +kernel
theorem dX11_copy_45 : decode cX11_copy 45 = .ok (.aload 7, 2) := by decide +kernel
theorem dX11_copy_47 : decode cX11_copy 47 = .ok (.invokevirtual 230, 3) := by decide +kernel
theorem dX11_copy_50 : decode cX11_copy 50 = .ok (.ifCond .eq 10, 3) := by decide +kernel
theorem dX11_copy_53 : decode cX11_copy 53 = .ok (.aload_n 0, 1) := by decide +kernel
theorem dX11_copy_54 : decode cX11_copy 54 = .ok (.ldc 234, 2) := by decide +kernel
theorem dX11_copy_56 : decode cX11_copy 56 = .ok (.invokevirtual 82, 3) := by decide +kernel
theorem dX11_copy_59 : decode cX11_copy 59 = .ok (.ireturn, 1) := by decide +kernel
theorem dX11_copy_60 : decode cX11_copy 60 = .ok (.aload 6, 2) := by decide +kernel
theorem dX11_copy_62 : decode cX11_copy 62 = .ok (.getfield 243, 3) := by decide +kernel
theorem dX11_copy_65 : decode cX11_copy 65 = .ok (.aload 7, 2) := by decide +kernel
theorem dX11_copy_67 : decode cX11_copy 67 = .ok (.getfield 243, 3) := by decide +kernel
theorem dX11_copy_70 : decode cX11_copy 70 = .ok (.if_icmp .eq 10, 3) := by decide +kernel
theorem dX11_copy_73 : decode cX11_copy 73 = .ok (.aload_n 0, 1) := by decide +kernel
theorem dX11_copy_74 : decode cX11_copy 74 = .ok (.ldc 154, 2) := by decide +kernel
theorem dX11_copy_76 : decode cX11_copy 76 = .ok (.invokevirtual 82, 3) := by decide +kernel
theorem dX11_copy_79 : decode cX11_copy 79 = .ok (.ireturn, 1) := by decide +kernel
theorem dX11_copy_80 : decode cX11_copy 80 = .ok (.aload 6, 2) := by decide +kernel
theorem dX11_copy_82 : decode cX11_copy 82 = .ok (.iload_n 2, 1) := by decide +kernel
theorem dX11_copy_83 : decode cX11_copy 83 = .ok (.iload 5, 2) := by decide +kernel
theorem dX11_copy_85 : decode cX11_copy 85 = .ok (.invokevirtual 246, 3) := by decide +kernel
theorem dX11_copy_88 : decode cX11_copy 88 = .ok (.ifCond .eq 15, 3) := by decide +kernel
theorem dX11_copy_91 : decode cX11_copy 91 = .ok (.aload 7, 2) := by decide +kernel
theorem dX11_copy_93 : decode cX11_copy 93 = .ok (.iload 4, 2) := by decide +kernel
theorem dX11_copy_95 : decode cX11_copy 95 = .ok (.iload 5, 2) := by decide +kernel
theorem dX11_copy_97 : decode cX11_copy 97 = .ok (.invokevirtual 246, 3) := by decide +kernel
theorem dX11_copy_100 : decode cX11_copy 100 = .ok (.ifCond .ne 10, 3) := by decide +kernel
theorem dX11_copy_103 : decode cX11_copy 103 = .ok (.aload_n 0, 1) := by decide +kernel
theorem dX11_copy_104 : decode cX11_copy 104 = .ok (.ldc 81, 2) := by decide +kernel
theorem dX11_copy_106 : decode cX11_copy 106 = .ok (.invokevirtual 82, 3) := by decide +kernel
theorem dX11_copy_109 : decode cX11_copy 109 = .ok (.ireturn, 1) := by decide +kernel
theorem dX11_copy_110 : decode cX11_copy 110 = .ok (.aload 6, 2) := by decide +kernel
theorem dX11_copy_112 : decode cX11_copy 112 = .ok (.getfield 235, 3) := by decide +kernel
theorem dX11_copy_115 : decode cX11_copy 115 = .ok (.iload_n 2, 1) := by decide +kernel
theorem dX11_copy_116 : decode cX11_copy 116 = .ok (.aload 7, 2) := by decide +kernel
theorem dX11_copy_118 : decode cX11_copy 118 = .ok (.getfield 235, 3) := by decide +kernel
theorem dX11_copy_121 : decode cX11_copy 121 = .ok (.iload 4, 2) := by decide +kernel
theorem dX11_copy_123 : decode cX11_copy 123 = .ok (.iload 5, 2) := by decide +kernel
theorem dX11_copy_125 : decode cX11_copy 125 = .ok (.invokestatic 249, 3) := by decide +kernel
theorem dX11_copy_128 : decode cX11_copy 128 = .ok (.iload 5, 2) := by decide +kernel
theorem dX11_copy_130 : decode cX11_copy 130 = .ok (.ireturn, 1) := by decide +kernel
def k_X11_copy_0 (F : FT) (Q : QT) : KT := o_iload 1 (o_cS m_X11_isSheet 1 (o_ifeq (F 14) (o_iload 3 (o_cS m_X11_isSheet 1 (o_ifne (F 21) (F 14))))))
def k_X11_copy_14 (F : FT) (Q : QT) : KT := o_aload 0 (o_ic (-1000000001) (o_cV 11 m_X11_finding 2 (o_iret Q)))
def k_X11_copy_21 (F : FT) (Q : QT) : KT := o_aload 0 (o_getR 11 5 (o_iload 1 (o_aald 5 (o_astore 6 (o_aload 0 (o_getR 11 5 (o_iload 3 (o_aald 5 (o_astore 7 (o_aload 6 (o_cV 7 m_X7_isMissing 1 (o_ifne (F 53) (o_aload 7 (o_cV 7 m_X7_isMissing 1 (o_ifeq (F 60) (F 53))))))))))))))))
def k_X11_copy_53 (F : FT) (Q : QT) : KT := o_aload 0 (o_ic (-1000000006) (o_cV 11 m_X11_finding 2 (o_iret Q)))
def k_X11_copy_60 (F : FT) (Q : QT) : KT := o_aload 6 (o_getI 7 0 (o_aload 7 (o_getI 7 0 (o_iceq (F 80) (o_aload 0 (o_ic (-1000000003) (o_cV 11 m_X11_finding 2 (o_iret Q))))))))
def k_X11_copy_80 (F : FT) (Q : QT) : KT := o_aload 6 (o_iload 2 (o_iload 5 (o_cV 7 m_X7_hasRange 3 (o_ifeq (F 103) (o_aload 7 (o_iload 4 (o_iload 5 (o_cV 7 m_X7_hasRange 3 (o_ifne (F 110) (F 103))))))))))
def k_X11_copy_103 (F : FT) (Q : QT) : KT := o_aload 0 (o_ic (-1000000001) (o_cV 11 m_X11_finding 2 (o_iret Q)))
def k_X11_copy_110 (F : FT) (Q : QT) : KT := o_aload 6 (o_getR 7 2 (o_iload 2 (o_aload 7 (o_getR 7 2 (o_iload 4 (o_iload 5 (o_cpyJ (o_iload 5 (o_iret Q)))))))))
set_option maxRecDepth 20000 in
theorem r_X11_copy {a0 : Nat} {a1 : Int32} {a2 : Int32} {a3 : Int32} {a4 : Int32} {a5 : Int32} {n : Nat} {R : RR} {I : II} {J : JJ} {Q : QT} (hn : n + 0 ≤ 90) (h90 : n = 90) (h : ∀ F : FT, al_Wk F → al_Ok F (k_X11_copy_0 F Q) 0 → al_Ok F (k_X11_copy_14 F Q) 14 → al_Ok F (k_X11_copy_21 F Q) 21 → al_Ok F (k_X11_copy_53 F Q) 53 → al_Ok F (k_X11_copy_60 F Q) 60 → al_Ok F (k_X11_copy_80 F Q) 80 → al_Ok F (k_X11_copy_103 F Q) 103 → al_Ok F (k_X11_copy_110 F Q) 110 → F 0 [some (.ref a0), some (.int a1), some (.int a2), some (.int a3), some (.int a4), some (.int a5), none, none] [] n R I J) : CT m_X11_copy 0 [.ref a0, .int a1, .int a2, .int a3, .int a4, .int a5] n R I J Q :=
  CT.of (by decide) hn (fun _ => rfl) (fun _ => Nat.le_of_ble_eq_true rfl) (fun F p l e s m args below meth c Rm t Q0 C hQ hr hm => h F (fun _ _ _ _ _ _ _ _ => S_wk C)
    (S_iload_n C dX11_copy_0 rfl (S_cS C ok_X11_isSheet (al_at 835 (by decide +kernel) rfl) (Nat.le_of_ble_eq_true rfl) (Nat.le_of_ble_eq_true rfl) dX11_copy_1 (S_ifeq (tgt := 14) C dX11_copy_4 (by decide) (S_iload_n C dX11_copy_7 rfl (S_cS C ok_X11_isSheet (al_at 835 (by decide +kernel) rfl) (Nat.le_of_ble_eq_true rfl) (Nat.le_of_ble_eq_true rfl) dX11_copy_8 (S_ifne (tgt := 21) C dX11_copy_11 (by decide) (fun _ _ _ _ _ _ h9 => h9)))))))
    (S_aload_n C dX11_copy_14 rfl (S_ldc C dX11_copy_15 (al_at 328 (by decide +kernel) rfl) (S_cV (ci := 11) C ok_X11_finding rfl (al_at 329 (by decide +kernel) rfl) (Nat.le_of_ble_eq_true rfl) (Nat.le_of_ble_eq_true rfl) dX11_copy_17 (S_iret C hQ hr dX11_copy_20))))
    (S_aload_n C dX11_copy_21 rfl (S_getR (ci := 11) (j := 5) C inG11 rfl (Nat.le_of_ble_eq_true rfl) rfl (al_at 294 (by decide +kernel) rfl) dX11_copy_22 (S_iload_n C dX11_copy_25 rfl (S_aald (ak := 5) C (fun _ _ _ _ _ _ => rfl) (fun _ => rfl) dX11_copy_26 (S_astore C dX11_copy_27 (Nat.le_of_ble_eq_true rfl) (S_aload_n C dX11_copy_29 rfl (S_getR (ci := 11) (j := 5) C inG11 rfl (Nat.le_of_ble_eq_true rfl) rfl (al_at 294 (by decide +kernel) rfl) dX11_copy_30 (S_iload_n C dX11_copy_33 rfl (S_aald (ak := 5) C (fun _ _ _ _ _ _ => rfl) (fun _ => rfl) dX11_copy_34 (S_astore C dX11_copy_35 (Nat.le_of_ble_eq_true rfl) (S_aload C dX11_copy_37 (S_cV (ci := 7) C ok_X7_isMissing rfl (al_at 848 (by decide +kernel) rfl) (Nat.le_of_ble_eq_true rfl) (Nat.le_of_ble_eq_true rfl) dX11_copy_39 (S_ifne (tgt := 53) C dX11_copy_42 (by decide) (S_aload C dX11_copy_45 (S_cV (ci := 7) C ok_X7_isMissing rfl (al_at 848 (by decide +kernel) rfl) (Nat.le_of_ble_eq_true rfl) (Nat.le_of_ble_eq_true rfl) dX11_copy_47 (S_ifeq (tgt := 60) C dX11_copy_50 (by decide) (fun _ _ _ _ _ _ h9 => h9)))))))))))))))))
    (S_aload_n C dX11_copy_53 rfl (S_ldc C dX11_copy_54 (al_at 852 (by decide +kernel) rfl) (S_cV (ci := 11) C ok_X11_finding rfl (al_at 329 (by decide +kernel) rfl) (Nat.le_of_ble_eq_true rfl) (Nat.le_of_ble_eq_true rfl) dX11_copy_56 (S_iret C hQ hr dX11_copy_59))))
    (S_aload C dX11_copy_60 (S_getI (ci := 7) (j := 0) C inG7 rfl (Nat.le_of_ble_eq_true rfl) rfl (al_at 277 (by decide +kernel) rfl) dX11_copy_62 (S_aload C dX11_copy_65 (S_getI (ci := 7) (j := 0) C inG7 rfl (Nat.le_of_ble_eq_true rfl) rfl (al_at 277 (by decide +kernel) rfl) dX11_copy_67 (S_icmpeq (tgt := 80) C dX11_copy_70 (by decide) (S_aload_n C dX11_copy_73 rfl (S_ldc C dX11_copy_74 (al_at 500 (by decide +kernel) rfl) (S_cV (ci := 11) C ok_X11_finding rfl (al_at 329 (by decide +kernel) rfl) (Nat.le_of_ble_eq_true rfl) (Nat.le_of_ble_eq_true rfl) dX11_copy_76 (S_iret C hQ hr dX11_copy_79)))))))))
    (S_aload C dX11_copy_80 (S_iload_n C dX11_copy_82 rfl (S_iload C dX11_copy_83 (S_cV (ci := 7) C ok_X7_hasRange rfl (al_at 861 (by decide +kernel) rfl) (Nat.le_of_ble_eq_true rfl) (Nat.le_of_ble_eq_true rfl) dX11_copy_85 (S_ifeq (tgt := 103) C dX11_copy_88 (by decide) (S_aload C dX11_copy_91 (S_iload C dX11_copy_93 (S_iload C dX11_copy_95 (S_cV (ci := 7) C ok_X7_hasRange rfl (al_at 861 (by decide +kernel) rfl) (Nat.le_of_ble_eq_true rfl) (Nat.le_of_ble_eq_true rfl) dX11_copy_97 (S_ifne (tgt := 110) C dX11_copy_100 (by decide) (fun _ _ _ _ _ _ h9 => h9)))))))))))
    (S_aload_n C dX11_copy_103 rfl (S_ldc C dX11_copy_104 (al_at 328 (by decide +kernel) rfl) (S_cV (ci := 11) C ok_X11_finding rfl (al_at 329 (by decide +kernel) rfl) (Nat.le_of_ble_eq_true rfl) (Nat.le_of_ble_eq_true rfl) dX11_copy_106 (S_iret C hQ hr dX11_copy_109))))
    (S_aload C dX11_copy_110 (S_getR (ci := 7) (j := 2) C inG7 rfl (Nat.le_of_ble_eq_true rfl) rfl (al_at 281 (by decide +kernel) rfl) dX11_copy_112 (S_iload_n C dX11_copy_115 rfl (S_aload C dX11_copy_116 (S_getR (ci := 7) (j := 2) C inG7 rfl (Nat.le_of_ble_eq_true rfl) rfl (al_at 281 (by decide +kernel) rfl) dX11_copy_118 (S_iload C dX11_copy_121 (S_iload C dX11_copy_123 (S_cpyJ C h90 (al_at 865 (by decide +kernel) rfl) (al_at 690 (by decide +kernel) rfl) (al_at 689 (by decide +kernel) rfl) (al_at 76 (by decide +kernel) rfl) (Nat.le_of_ble_eq_true rfl) (Nat.le_of_ble_eq_true rfl) dX11_copy_125 (S_iload C dX11_copy_128 (S_iret C hQ hr dX11_copy_130)))))))))))
theorem dX11_corner_0 : decode cX11_corner 0 = .ok (.aload_n 0, 1) := by decide +kernel
theorem dX11_corner_1 : decode cX11_corner 1 = .ok (.iload_n 1, 1) := by decide +kernel
theorem dX11_corner_2 : decode cX11_corner 2 = .ok (.invokevirtual 111, 3) := by decide +kernel
theorem dX11_corner_5 : decode cX11_corner 5 = .ok (.ifCond .eq 10, 3) := by decide +kernel
theorem dX11_corner_8 : decode cX11_corner 8 = .ok (.iload_n 2, 1) := by decide +kernel
theorem dX11_corner_9 : decode cX11_corner 9 = .ok (.invokestatic 155, 3) := by decide +kernel
theorem dX11_corner_12 : decode cX11_corner 12 = .ok (.ifCond .ne 10, 3) := by decide +kernel
theorem dX11_corner_15 : decode cX11_corner 15 = .ok (.aload_n 0, 1) := by decide +kernel
theorem dX11_corner_16 : decode cX11_corner 16 = .ok (.ldc 81, 2) := by decide +kernel
theorem dX11_corner_18 : decode cX11_corner 18 = .ok (.invokevirtual 82, 3) := by decide +kernel
theorem dX11_corner_21 : decode cX11_corner 21 = .ok (.ireturn, 1) := by decide +kernel
theorem dX11_corner_22 : decode cX11_corner 22 = .ok (.aload_n 0, 1) := by decide +kernel
theorem dX11_corner_23 : decode cX11_corner 23 = .ok (.getfield 30, 3) := by decide +kernel
theorem dX11_corner_26 : decode cX11_corner 26 = .ok (.iload_n 1, 1) := by decide +kernel
theorem dX11_corner_27 : decode cX11_corner 27 = .ok (.iload_n 2, 1) := by decide +kernel
theorem dX11_corner_28 : decode cX11_corner 28 = .ok (.invokevirtual 158, 3) := by decide +kernel
theorem dX11_corner_31 : decode cX11_corner 31 = .ok (.ireturn, 1) := by decide +kernel
def k_X11_corner_0 (F : FT) (Q : QT) : KT := o_aload 0 (o_iload 1 (o_cV 11 m_X11_isHouse 2 (o_ifeq (F 15) (o_iload 2 (o_cS m_X11_isPoint 1 (o_ifne (F 22) (F 15)))))))
def k_X11_corner_15 (F : FT) (Q : QT) : KT := o_aload 0 (o_ic (-1000000001) (o_cV 11 m_X11_finding 2 (o_iret Q)))
def k_X11_corner_22 (F : FT) (Q : QT) : KT := o_aload 0 (o_getR 11 0 (o_iload 1 (o_iload 2 (o_cV 9 m_X9_shapeAt 3 (o_iret Q)))))
set_option maxRecDepth 20000 in
theorem r_X11_corner {a0 : Nat} {a1 : Int32} {a2 : Int32} {n : Nat} {R : RR} {I : II} {J : JJ} {Q : QT} (hn : n + 0 ≤ 90) (h : ∀ F : FT, al_Wk F → al_Ok F (k_X11_corner_0 F Q) 0 → al_Ok F (k_X11_corner_15 F Q) 15 → al_Ok F (k_X11_corner_22 F Q) 22 → F 0 [some (.ref a0), some (.int a1), some (.int a2)] [] n R I J) : CT m_X11_corner 0 [.ref a0, .int a1, .int a2] n R I J Q :=
  CT.of (by decide) hn (fun _ => rfl) (fun _ => Nat.le_of_ble_eq_true rfl) (fun F p l e s m args below meth c Rm t Q0 C hQ hr hm => h F (fun _ _ _ _ _ _ _ _ => S_wk C)
    (S_aload_n C dX11_corner_0 rfl (S_iload_n C dX11_corner_1 rfl (S_cV (ci := 11) C ok_X11_isHouse rfl (al_at 369 (by decide +kernel) rfl) (Nat.le_of_ble_eq_true rfl) (Nat.le_of_ble_eq_true rfl) dX11_corner_2 (S_ifeq (tgt := 15) C dX11_corner_5 (by decide) (S_iload_n C dX11_corner_8 rfl (S_cS C ok_X11_isPoint (al_at 505 (by decide +kernel) rfl) (Nat.le_of_ble_eq_true rfl) (Nat.le_of_ble_eq_true rfl) dX11_corner_9 (S_ifne (tgt := 22) C dX11_corner_12 (by decide) (fun _ _ _ _ _ _ h9 => h9))))))))
    (S_aload_n C dX11_corner_15 rfl (S_ldc C dX11_corner_16 (al_at 328 (by decide +kernel) rfl) (S_cV (ci := 11) C ok_X11_finding rfl (al_at 329 (by decide +kernel) rfl) (Nat.le_of_ble_eq_true rfl) (Nat.le_of_ble_eq_true rfl) dX11_corner_18 (S_iret C hQ hr dX11_corner_21))))
    (S_aload_n C dX11_corner_22 rfl (S_getR (ci := 11) (j := 0) C inG11 rfl (Nat.le_of_ble_eq_true rfl) rfl (al_at 289 (by decide +kernel) rfl) dX11_corner_23 (S_iload_n C dX11_corner_26 rfl (S_iload_n C dX11_corner_27 rfl (S_cV (ci := 9) C ok_X9_shapeAt rfl (al_at 508 (by decide +kernel) rfl) (Nat.le_of_ble_eq_true rfl) (Nat.le_of_ble_eq_true rfl) dX11_corner_28 (S_iret C hQ hr dX11_corner_31)))))))
theorem dX11_cornersOfShape_0 : decode cX11_cornersOfShape 0 = .ok (.iload_n 0, 1) := by decide +kernel
theorem dX11_cornersOfShape_1 : decode cX11_cornersOfShape 1 = .ok (.istore_n 1, 1) := by decide +kernel
theorem dX11_cornersOfShape_2 : decode cX11_cornersOfShape 2 = .ok (.iload_n 0, 1) := by decide +kernel
theorem dX11_cornersOfShape_3 : decode cX11_cornersOfShape 3 = .ok (.iconst 1, 1) := by decide +kernel
theorem dX11_cornersOfShape_4 : decode cX11_cornersOfShape 4 = .ok (.ishl, 1) := by decide +kernel
theorem dX11_cornersOfShape_5 : decode cX11_cornersOfShape 5 = .ok (.istore_n 2, 1) := by decide +kernel
theorem dX11_cornersOfShape_6 : decode cX11_cornersOfShape 6 = .ok (.iload_n 0, 1) := by decide +kernel
theorem dX11_cornersOfShape_7 : decode cX11_cornersOfShape 7 = .ok (.iconst 5, 1) := by decide +kernel
theorem dX11_cornersOfShape_8 : decode cX11_cornersOfShape 8 = .ok (.ishl, 1) := by decide +kernel
theorem dX11_cornersOfShape_9 : decode cX11_cornersOfShape 9 = .ok (.istore_n 3, 1) := by decide +kernel
theorem dX11_cornersOfShape_10 : decode cX11_cornersOfShape 10 = .ok (.iload_n 0, 1) := by decide +kernel
theorem dX11_cornersOfShape_11 : decode cX11_cornersOfShape 11 = .ok (.bipush 6, 2) := by decide +kernel
theorem dX11_cornersOfShape_13 : decode cX11_cornersOfShape 13 = .ok (.ishl, 1) := by decide +kernel
theorem dX11_cornersOfShape_14 : decode cX11_cornersOfShape 14 = .ok (.istore 4, 2) := by decide +kernel
theorem dX11_cornersOfShape_16 : decode cX11_cornersOfShape 16 = .ok (.iload_n 1, 1) := by decide +kernel
theorem dX11_cornersOfShape_17 : decode cX11_cornersOfShape 17 = .ok (.iload_n 2, 1) := by decide +kernel
theorem dX11_cornersOfShape_18 : decode cX11_cornersOfShape 18 = .ok (.ixor, 1) := by decide +kernel
theorem dX11_cornersOfShape_19 : decode cX11_cornersOfShape 19 = .ok (.iload_n 3, 1) := by decide +kernel
theorem dX11_cornersOfShape_20 : decode cX11_cornersOfShape 20 = .ok (.ixor, 1) := by decide +kernel
theorem dX11_cornersOfShape_21 : decode cX11_cornersOfShape 21 = .ok (.iload 4, 2) := by decide +kernel
theorem dX11_cornersOfShape_23 : decode cX11_cornersOfShape 23 = .ok (.ixor, 1) := by decide +kernel
theorem dX11_cornersOfShape_24 : decode cX11_cornersOfShape 24 = .ok (.istore 5, 2) := by decide +kernel
theorem dX11_cornersOfShape_26 : decode cX11_cornersOfShape 26 = .ok (.iload_n 1, 1) := by decide +kernel
theorem dX11_cornersOfShape_27 : decode cX11_cornersOfShape 27 = .ok (.iload_n 2, 1) := by decide +kernel
theorem dX11_cornersOfShape_28 : decode cX11_cornersOfShape 28 = .ok (.ixor, 1) := by decide +kernel
theorem dX11_cornersOfShape_29 : decode cX11_cornersOfShape 29 = .ok (.iload_n 1, 1) := by decide +kernel
theorem dX11_cornersOfShape_30 : decode cX11_cornersOfShape 30 = .ok (.iload 4, 2) := by decide +kernel
theorem dX11_cornersOfShape_32 : decode cX11_cornersOfShape 32 = .ok (.ixor, 1) := by decide +kernel
theorem dX11_cornersOfShape_33 : decode cX11_cornersOfShape 33 = .ok (.iconst (-1), 1) := by decide +kernel
theorem dX11_cornersOfShape_34 : decode cX11_cornersOfShape 34 = .ok (.ixor, 1) := by decide +kernel
theorem dX11_cornersOfShape_35 : decode cX11_cornersOfShape 35 = .ok (.iand, 1) := by decide +kernel
theorem dX11_cornersOfShape_36 : decode cX11_cornersOfShape 36 = .ok (.iload_n 2, 1) := by decide +kernel
theorem dX11_cornersOfShape_37 : decode cX11_cornersOfShape 37 = .ok (.iload_n 3, 1) := by decide +kernel
theorem dX11_cornersOfShape_38 : decode cX11_cornersOfShape 38 = .ok (.ixor, 1) := by decide +kernel
theorem dX11_cornersOfShape_39 : decode cX11_cornersOfShape 39 = .ok (.iconst (-1), 1) := by decide +kernel
theorem dX11_cornersOfShape_40 : decode cX11_cornersOfShape 40 = .ok (.ixor, 1) := by decide +kernel
theorem dX11_cornersOfShape_41 : decode cX11_cornersOfShape 41 = .ok (.iand, 1) := by decide +kernel
theorem dX11_cornersOfShape_42 : decode cX11_cornersOfShape 42 = .ok (.istore 6, 2) := by decide +kernel
theorem dX11_cornersOfShape_44 : decode cX11_cornersOfShape 44 = .ok (.iload 5, 2) := by decide +kernel
theorem dX11_cornersOfShape_46 : decode cX11_cornersOfShape 46 = .ok (.iload 6, 2) := by decide +kernel
theorem dX11_cornersOfShape_48 : decode cX11_cornersOfShape 48 = .ok (.ior, 1) := by decide +kernel
theorem dX11_cornersOfShape_49 : decode cX11_cornersOfShape 49 = .ok (.invokestatic 274, 3) := by decide +kernel
theorem dX11_cornersOfShape_52 : decode cX11_cornersOfShape 52 = .ok (.ireturn, 1) := by decide +kernel
def k_X11_cornersOfShape_0 (F : FT) (Q : QT) : KT := o_iload 0 (o_istore 1 (o_iload 0 (o_ic (nI 1) (o_ishl (o_istore 2 (o_iload 0 (o_ic (nI 5) (o_ishl (o_istore 3 (o_iload 0 (o_ic (nI 6) (o_ishl (o_istore 4 (o_iload 1 (o_iload 2 (o_ixor (o_iload 3 (o_ixor (o_iload 4 (o_ixor (o_istore 5 (o_iload 1 (o_iload 2 (o_ixor (o_iload 1 (o_iload 4 (o_ixor (o_ic (-1) (o_ixor (o_iand (o_iload 2 (o_iload 3 (o_ixor (o_ic (-1) (o_ixor (o_iand (o_istore 6 (o_iload 5 (o_iload 6 (o_ior (o_cS m_J6_bitCount_0f7a4 1 (o_iret Q))))))))))))))))))))))))))))))))))))))))))
set_option maxRecDepth 20000 in
theorem r_X11_cornersOfShape {a0 : Int32} {n : Nat} {R : RR} {I : II} {J : JJ} {Q : QT} (hn : n + 0 ≤ 90) (h : ∀ F : FT, al_Wk F → al_Ok F (k_X11_cornersOfShape_0 F Q) 0 → F 0 [some (.int a0), none, none, none, none, none, none] [] n R I J) : CT m_X11_cornersOfShape 0 [.int a0] n R I J Q :=
  CT.of (by decide) hn (fun _ => rfl) (fun _ => Nat.le_of_ble_eq_true rfl) (fun F p l e s m args below meth c Rm t Q0 C hQ hr hm => h F (fun _ _ _ _ _ _ _ _ => S_wk C)
    (S_iload_n C dX11_cornersOfShape_0 rfl (S_istore_n C dX11_cornersOfShape_1 rfl (Nat.le_of_ble_eq_true rfl) (S_iload_n C dX11_cornersOfShape_2 rfl (S_iconst C dX11_cornersOfShape_3 (by decide +kernel) (S_ishl C dX11_cornersOfShape_4 (S_istore_n C dX11_cornersOfShape_5 rfl (Nat.le_of_ble_eq_true rfl) (S_iload_n C dX11_cornersOfShape_6 rfl (S_iconst C dX11_cornersOfShape_7 (by decide +kernel) (S_ishl C dX11_cornersOfShape_8 (S_istore_n C dX11_cornersOfShape_9 rfl (Nat.le_of_ble_eq_true rfl) (S_iload_n C dX11_cornersOfShape_10 rfl (S_bipush C dX11_cornersOfShape_11 (by decide +kernel) (S_ishl C dX11_cornersOfShape_13 (S_istore C dX11_cornersOfShape_14 (Nat.le_of_ble_eq_true rfl) (S_iload_n C dX11_cornersOfShape_16 rfl (S_iload_n C dX11_cornersOfShape_17 rfl (S_ixor C dX11_cornersOfShape_18 (S_iload_n C dX11_cornersOfShape_19 rfl (S_ixor C dX11_cornersOfShape_20 (S_iload C dX11_cornersOfShape_21 (S_ixor C dX11_cornersOfShape_23 (S_istore C dX11_cornersOfShape_24 (Nat.le_of_ble_eq_true rfl) (S_iload_n C dX11_cornersOfShape_26 rfl (S_iload_n C dX11_cornersOfShape_27 rfl (S_ixor C dX11_cornersOfShape_28 (S_iload_n C dX11_cornersOfShape_29 rfl (S_iload C dX11_cornersOfShape_30 (S_ixor C dX11_cornersOfShape_32 (S_iconst C dX11_cornersOfShape_33 (by decide +kernel) (S_ixor C dX11_cornersOfShape_34 (S_iand C dX11_cornersOfShape_35 (S_iload_n C dX11_cornersOfShape_36 rfl (S_iload_n C dX11_cornersOfShape_37 rfl (S_ixor C dX11_cornersOfShape_38 (S_iconst C dX11_cornersOfShape_39 (by decide +kernel) (S_ixor C dX11_cornersOfShape_40 (S_iand C dX11_cornersOfShape_41 (S_istore C dX11_cornersOfShape_42 (Nat.le_of_ble_eq_true rfl) (S_iload C dX11_cornersOfShape_44 (S_iload C dX11_cornersOfShape_46 (S_ior C dX11_cornersOfShape_48 (S_cS C ok_J6_bitCount_0f7a4 (al_at 587 (by decide +kernel) rfl) (Nat.le_of_ble_eq_true rfl) (Nat.le_of_ble_eq_true rfl) dX11_cornersOfShape_49 (S_iret C hQ hr dX11_cornersOfShape_52))))))))))))))))))))))))))))))))))))))))))))
theorem dX11_count_0 : decode cX11_count 0 = .ok (.iload_n 1, 1) := by decide +kernel
theorem dX11_count_1 : decode cX11_count 1 = .ok (.tableswitch 90 0 5 #[39, 47, 56, 65, 74, 82], 39) := by decide +kernel
theorem dX11_count_40 : decode cX11_count 40 = .ok (.aload_n 0, 1) := by decide +kernel
theorem dX11_count_41 : decode cX11_count 41 = .ok (.getfield 30, 3) := by decide +kernel
theorem dX11_count_44 : decode cX11_count 44 = .ok (.getfield 102, 3) := by decide +kernel
theorem dX11_count_47 : decode cX11_count 47 = .ok (.ireturn, 1) := by decide +kernel
theorem dX11_count_48 : decode cX11_count 48 = .ok (.aload_n 0, 1) := by decide +kernel
theorem dX11_count_49 : decode cX11_count 49 = .ok (.getfield 30, 3) := by decide +kernel
theorem dX11_count_52 : decode cX11_count 52 = .ok (.iconst 1, 1) := by decide +kernel
theorem dX11_count_53 : decode cX11_count 53 = .ok (.invokevirtual 129, 3) := by decide +kernel
theorem dX11_count_56 : decode cX11_count 56 = .ok (.ireturn, 1) := by decide +kernel
theorem dX11_count_57 : decode cX11_count 57 = .ok (.aload_n 0, 1) := by decide +kernel
theorem dX11_count_58 : decode cX11_count 58 = .ok (.getfield 30, 3) := by decide +kernel
theorem dX11_count_61 : decode cX11_count 61 = .ok (.iconst 2, 1) := by decide +kernel
theorem dX11_count_62 : decode cX11_count 62 = .ok (.invokevirtual 129, 3) := by decide +kernel
theorem dX11_count_65 : decode cX11_count 65 = .ok (.ireturn, 1) := by decide +kernel
theorem dX11_count_66 : decode cX11_count 66 = .ok (.aload_n 0, 1) := by decide +kernel
theorem dX11_count_67 : decode cX11_count 67 = .ok (.getfield 30, 3) := by decide +kernel
theorem dX11_count_70 : decode cX11_count 70 = .ok (.iconst 3, 1) := by decide +kernel
theorem dX11_count_71 : decode cX11_count 71 = .ok (.invokevirtual 129, 3) := by decide +kernel
theorem dX11_count_74 : decode cX11_count 74 = .ok (.ireturn, 1) := by decide +kernel
theorem dX11_count_75 : decode cX11_count 75 = .ok (.aload_n 0, 1) := by decide +kernel
theorem dX11_count_76 : decode cX11_count 76 = .ok (.getfield 53, 3) := by decide +kernel
theorem dX11_count_79 : decode cX11_count 79 = .ok (.getfield 210, 3) := by decide +kernel
theorem dX11_count_82 : decode cX11_count 82 = .ok (.ireturn, 1) := by decide +kernel
theorem dX11_count_83 : decode cX11_count 83 = .ok (.aload_n 0, 1) := by decide +kernel
theorem dX11_count_84 : decode cX11_count 84 = .ok (.getfield 30, 3) := by decide +kernel
theorem dX11_count_87 : decode cX11_count 87 = .ok (.invokevirtual 263, 3) := by decide +kernel
theorem dX11_count_90 : decode cX11_count 90 = .ok (.ireturn, 1) := by decide +kernel
theorem dX11_count_91 : decode cX11_count 91 = .ok (.aload_n 0, 1) := by decide +kernel
theorem dX11_count_92 : decode cX11_count 92 = .ok (.ldc 81, 2) := by decide +kernel
theorem dX11_count_94 : decode cX11_count 94 = .ok (.invokevirtual 82, 3) := by decide +kernel
theorem dX11_count_97 : decode cX11_count 97 = .ok (.ireturn, 1) := by decide +kernel
def k_X11_count_0 (F : FT) (Q : QT) : KT := o_iload 1 (o_tsw (nI 0) [F 40, F 48, F 57, F 66, F 75, F 83] (F 91))
def k_X11_count_40 (F : FT) (Q : QT) : KT := o_aload 0 (o_getR 11 0 (o_getI 9 3 (o_iret Q)))
def k_X11_count_48 (F : FT) (Q : QT) : KT := o_aload 0 (o_getR 11 0 (o_ic (nI 1) (o_cV 9 m_X9_squaresThatAre 2 (o_iret Q))))
def k_X11_count_57 (F : FT) (Q : QT) : KT := o_aload 0 (o_getR 11 0 (o_ic (nI 2) (o_cV 9 m_X9_squaresThatAre 2 (o_iret Q))))
def k_X11_count_66 (F : FT) (Q : QT) : KT := o_aload 0 (o_getR 11 0 (o_ic (nI 3) (o_cV 9 m_X9_squaresThatAre 2 (o_iret Q))))
def k_X11_count_75 (F : FT) (Q : QT) : KT := o_aload 0 (o_getR 11 4 (o_getI 10 3 (o_iret Q)))
def k_X11_count_83 (F : FT) (Q : QT) : KT := o_aload 0 (o_getR 11 0 (o_cV 9 m_X9_squaresOfHouses 1 (o_iret Q)))
def k_X11_count_91 (F : FT) (Q : QT) : KT := o_aload 0 (o_ic (-1000000001) (o_cV 11 m_X11_finding 2 (o_iret Q)))
set_option maxRecDepth 20000 in
theorem r_X11_count {a0 : Nat} {a1 : Int32} {n : Nat} {R : RR} {I : II} {J : JJ} {Q : QT} (hn : n + 0 ≤ 90) (h : ∀ F : FT, al_Wk F → al_Ok F (k_X11_count_0 F Q) 0 → al_Ok F (k_X11_count_40 F Q) 40 → al_Ok F (k_X11_count_48 F Q) 48 → al_Ok F (k_X11_count_57 F Q) 57 → al_Ok F (k_X11_count_66 F Q) 66 → al_Ok F (k_X11_count_75 F Q) 75 → al_Ok F (k_X11_count_83 F Q) 83 → al_Ok F (k_X11_count_91 F Q) 91 → F 0 [some (.ref a0), some (.int a1)] [] n R I J) : CT m_X11_count 0 [.ref a0, .int a1] n R I J Q :=
  CT.of (by decide) hn (fun _ => rfl) (fun _ => Nat.le_of_ble_eq_true rfl) (fun F p l e s m args below meth c Rm t Q0 C hQ hr hm => h F (fun _ _ _ _ _ _ _ _ => S_wk C)
    (S_iload_n C dX11_count_0 rfl (S_tsw (lo0 := 0) (tg := [40, 48, 57, 66, 75, 83]) (d := 91) C dX11_count_1 rfl (by decide) (by decide +kernel) (by decide) (by decide)))
    (S_aload_n C dX11_count_40 rfl (S_getR (ci := 11) (j := 0) C inG11 rfl (Nat.le_of_ble_eq_true rfl) rfl (al_at 289 (by decide +kernel) rfl) dX11_count_41 (S_getI (ci := 9) (j := 3) C inG9 rfl (Nat.le_of_ble_eq_true rfl) rfl (al_at 181 (by decide +kernel) rfl) dX11_count_44 (S_iret C hQ hr dX11_count_47))))
    (S_aload_n C dX11_count_48 rfl (S_getR (ci := 11) (j := 0) C inG11 rfl (Nat.le_of_ble_eq_true rfl) rfl (al_at 289 (by decide +kernel) rfl) dX11_count_49 (S_iconst C dX11_count_52 (by decide +kernel) (S_cV (ci := 9) C ok_X9_squaresThatAre rfl (al_at 373 (by decide +kernel) rfl) (Nat.le_of_ble_eq_true rfl) (Nat.le_of_ble_eq_true rfl) dX11_count_53 (S_iret C hQ hr dX11_count_56)))))
    (S_aload_n C dX11_count_57 rfl (S_getR (ci := 11) (j := 0) C inG11 rfl (Nat.le_of_ble_eq_true rfl) rfl (al_at 289 (by decide +kernel) rfl) dX11_count_58 (S_iconst C dX11_count_61 (by decide +kernel) (S_cV (ci := 9) C ok_X9_squaresThatAre rfl (al_at 373 (by decide +kernel) rfl) (Nat.le_of_ble_eq_true rfl) (Nat.le_of_ble_eq_true rfl) dX11_count_62 (S_iret C hQ hr dX11_count_65)))))
    (S_aload_n C dX11_count_66 rfl (S_getR (ci := 11) (j := 0) C inG11 rfl (Nat.le_of_ble_eq_true rfl) rfl (al_at 289 (by decide +kernel) rfl) dX11_count_67 (S_iconst C dX11_count_70 (by decide +kernel) (S_cV (ci := 9) C ok_X9_squaresThatAre rfl (al_at 373 (by decide +kernel) rfl) (Nat.le_of_ble_eq_true rfl) (Nat.le_of_ble_eq_true rfl) dX11_count_71 (S_iret C hQ hr dX11_count_74)))))
    (S_aload_n C dX11_count_75 rfl (S_getR (ci := 11) (j := 4) C inG11 rfl (Nat.le_of_ble_eq_true rfl) rfl (al_at 293 (by decide +kernel) rfl) dX11_count_76 (S_getI (ci := 10) (j := 3) C inG10 rfl (Nat.le_of_ble_eq_true rfl) rfl (al_at 247 (by decide +kernel) rfl) dX11_count_79 (S_iret C hQ hr dX11_count_82))))
    (S_aload_n C dX11_count_83 rfl (S_getR (ci := 11) (j := 0) C inG11 rfl (Nat.le_of_ble_eq_true rfl) rfl (al_at 289 (by decide +kernel) rfl) dX11_count_84 (S_cV (ci := 9) C ok_X9_squaresOfHouses rfl (al_at 892 (by decide +kernel) rfl) (Nat.le_of_ble_eq_true rfl) (Nat.le_of_ble_eq_true rfl) dX11_count_87 (S_iret C hQ hr dX11_count_90))))
    (S_aload_n C dX11_count_91 rfl (S_ldc C dX11_count_92 (al_at 328 (by decide +kernel) rfl) (S_cV (ci := 11) C ok_X11_finding rfl (al_at 329 (by decide +kernel) rfl) (Nat.le_of_ble_eq_true rfl) (Nat.le_of_ble_eq_true rfl) dX11_count_94 (S_iret C hQ hr dX11_count_97)))))
theorem dX11_counts_0 : decode cX11_counts 0 = .ok (.aload_n 0, 1) := by decide +kernel
theorem dX11_counts_1 : decode cX11_counts 1 = .ok (.iload_n 1, 1) := by decide +kernel
theorem dX11_counts_2 : decode cX11_counts 2 = .ok (.invokevirtual 111, 3) := by decide +kernel
theorem dX11_counts_5 : decode cX11_counts 5 = .ok (.ifCond .eq 10, 3) := by decide +kernel
theorem dX11_counts_8 : decode cX11_counts 8 = .ok (.iload_n 2, 1) := by decide +kernel
theorem dX11_counts_9 : decode cX11_counts 9 = .ok (.invokestatic 155, 3) := by decide +kernel
theorem dX11_counts_12 : decode cX11_counts 12 = .ok (.ifCond .ne 10, 3) := by decide +kernel
theorem dX11_counts_15 : decode cX11_counts 15 = .ok (.aload_n 0, 1) := by decide +kernel
theorem dX11_counts_16 : decode cX11_counts 16 = .ok (.ldc 81, 2) := by decide +kernel
theorem dX11_counts_18 : decode cX11_counts 18 = .ok (.invokevirtual 82, 3) := by decide +kernel
theorem dX11_counts_21 : decode cX11_counts 21 = .ok (.ireturn, 1) := by decide +kernel
theorem dX11_counts_22 : decode cX11_counts 22 = .ok (.aload_n 0, 1) := by decide +kernel
theorem dX11_counts_23 : decode cX11_counts 23 = .ok (.getfield 44, 3) := by decide +kernel
theorem dX11_counts_26 : decode cX11_counts 26 = .ok (.iload_n 1, 1) := by decide +kernel
theorem dX11_counts_27 : decode cX11_counts 27 = .ok (.iload_n 2, 1) := by decide +kernel
theorem dX11_counts_28 : decode cX11_counts 28 = .ok (.invokevirtual 173, 3) := by decide +kernel
theorem dX11_counts_31 : decode cX11_counts 31 = .ok (.ireturn, 1) := by decide +kernel
def k_X11_counts_0 (F : FT) (Q : QT) : KT := o_aload 0 (o_iload 1 (o_cV 11 m_X11_isHouse 2 (o_ifeq (F 15) (o_iload 2 (o_cS m_X11_isPoint 1 (o_ifne (F 22) (F 15)))))))
def k_X11_counts_15 (F : FT) (Q : QT) : KT := o_aload 0 (o_ic (-1000000001) (o_cV 11 m_X11_finding 2 (o_iret Q)))
def k_X11_counts_22 (F : FT) (Q : QT) : KT := o_aload 0 (o_getR 11 3 (o_iload 1 (o_iload 2 (o_cV 8 m_X8_countOf 3 (o_iret Q)))))
set_option maxRecDepth 20000 in
theorem r_X11_counts {a0 : Nat} {a1 : Int32} {a2 : Int32} {n : Nat} {R : RR} {I : II} {J : JJ} {Q : QT} (hn : n + 0 ≤ 90) (h : ∀ F : FT, al_Wk F → al_Ok F (k_X11_counts_0 F Q) 0 → al_Ok F (k_X11_counts_15 F Q) 15 → al_Ok F (k_X11_counts_22 F Q) 22 → F 0 [some (.ref a0), some (.int a1), some (.int a2)] [] n R I J) : CT m_X11_counts 0 [.ref a0, .int a1, .int a2] n R I J Q :=
  CT.of (by decide) hn (fun _ => rfl) (fun _ => Nat.le_of_ble_eq_true rfl) (fun F p l e s m args below meth c Rm t Q0 C hQ hr hm => h F (fun _ _ _ _ _ _ _ _ => S_wk C)
    (S_aload_n C dX11_counts_0 rfl (S_iload_n C dX11_counts_1 rfl (S_cV (ci := 11) C ok_X11_isHouse rfl (al_at 369 (by decide +kernel) rfl) (Nat.le_of_ble_eq_true rfl) (Nat.le_of_ble_eq_true rfl) dX11_counts_2 (S_ifeq (tgt := 15) C dX11_counts_5 (by decide) (S_iload_n C dX11_counts_8 rfl (S_cS C ok_X11_isPoint (al_at 505 (by decide +kernel) rfl) (Nat.le_of_ble_eq_true rfl) (Nat.le_of_ble_eq_true rfl) dX11_counts_9 (S_ifne (tgt := 22) C dX11_counts_12 (by decide) (fun _ _ _ _ _ _ h9 => h9))))))))
    (S_aload_n C dX11_counts_15 rfl (S_ldc C dX11_counts_16 (al_at 328 (by decide +kernel) rfl) (S_cV (ci := 11) C ok_X11_finding rfl (al_at 329 (by decide +kernel) rfl) (Nat.le_of_ble_eq_true rfl) (Nat.le_of_ble_eq_true rfl) dX11_counts_18 (S_iret C hQ hr dX11_counts_21))))
    (S_aload_n C dX11_counts_22 rfl (S_getR (ci := 11) (j := 3) C inG11 rfl (Nat.le_of_ble_eq_true rfl) rfl (al_at 292 (by decide +kernel) rfl) dX11_counts_23 (S_iload_n C dX11_counts_26 rfl (S_iload_n C dX11_counts_27 rfl (S_cV (ci := 8) C ok_X8_countOf rfl (al_at 533 (by decide +kernel) rfl) (Nat.le_of_ble_eq_true rfl) (Nat.le_of_ble_eq_true rfl) dX11_counts_28 (S_iret C hQ hr dX11_counts_31)))))))
theorem dX11_feed_0 : decode cX11_feed 0 = .ok (.iload_n 2, 1) := by decide +kernel
theorem dX11_feed_1 : decode cX11_feed 1 = .ok (.iconst 1, 1) := by decide +kernel
theorem dX11_feed_2 : decode cX11_feed 2 = .ok (.if_icmp .lt 8, 3) := by decide +kernel
theorem dX11_feed_5 : decode cX11_feed 5 = .ok (.iload_n 2, 1) := by decide +kernel
theorem dX11_feed_6 : decode cX11_feed 6 = .ok (.iconst 4, 1) := by decide +kernel
theorem dX11_feed_7 : decode cX11_feed 7 = .ok (.if_icmp .le 10, 3) := by decide +kernel
theorem dX11_feed_10 : decode cX11_feed 10 = .ok (.aload_n 0, 1) := by decide +kernel
theorem dX11_feed_11 : decode cX11_feed 11 = .ok (.ldc 81, 2) := by decide +kernel
theorem dX11_feed_13 : decode cX11_feed 13 = .ok (.invokevirtual 82, 3) := by decide +kernel
theorem dX11_feed_16 : decode cX11_feed 16 = .ok (.ireturn, 1) := by decide +kernel
theorem dX11_feed_17 : decode cX11_feed 17 = .ok (.aload_n 0, 1) := by decide +kernel
theorem dX11_feed_18 : decode cX11_feed 18 = .ok (.getfield 53, 3) := by decide +kernel
theorem dX11_feed_21 : decode cX11_feed 21 = .ok (.getfield 210, 3) := by decide +kernel
theorem dX11_feed_24 : decode cX11_feed 24 = .ok (.iload_n 2, 1) := by decide +kernel
theorem dX11_feed_25 : decode cX11_feed 25 = .ok (.iadd, 1) := by decide +kernel
theorem dX11_feed_26 : decode cX11_feed 26 = .ok (.bipush 120, 2) := by decide +kernel
theorem dX11_feed_28 : decode cX11_feed 28 = .ok (.if_icmp .le 10, 3) := by decide +kernel
theorem dX11_feed_31 : decode cX11_feed 31 = .ok (.aload_n 0, 1) := by decide +kernel
theorem dX11_feed_32 : decode cX11_feed 32 = .ok (.ldc 106, 2) := by decide +kernel
theorem dX11_feed_34 : decode cX11_feed 34 = .ok (.invokevirtual 82, 3) := by decide +kernel
theorem dX11_feed_37 : decode cX11_feed 37 = .ok (.ireturn, 1) := by decide +kernel
theorem dX11_feed_38 : decode cX11_feed 38 = .ok (.iload_n 2, 1) := by decide +kernel
theorem dX11_feed_39 : decode cX11_feed 39 = .ok (.iconst 1, 1) := by decide +kernel
theorem dX11_feed_40 : decode cX11_feed 40 = .ok (.isub, 1) := by decide +kernel
theorem dX11_feed_41 : decode cX11_feed 41 = .ok (.istore_n 3, 1) := by decide +kernel
theorem dX11_feed_42 : decode cX11_feed 42 = .ok (.iload_n 3, 1) := by decide +kernel
theorem dX11_feed_43 : decode cX11_feed 43 = .ok (.ifCond .lt 22, 3) := by decide +kernel
theorem dX11_feed_46 : decode cX11_feed 46 = .ok (.aload_n 0, 1) := by decide +kernel
theorem dX11_feed_47 : decode cX11_feed 47 = .ok (.getfield 53, 3) := by decide +kernel
theorem dX11_feed_50 : decode cX11_feed 50 = .ok (.iload_n 1, 1) := by decide +kernel
theorem dX11_feed_51 : decode cX11_feed 51 = .ok (.bipush 8, 2) := by decide +kernel
theorem dX11_feed_53 : decode cX11_feed 53 = .ok (.iload_n 3, 1) := by decide +kernel
theorem dX11_feed_54 : decode cX11_feed 54 = .ok (.imul, 1) := by decide +kernel
theorem dX11_feed_55 : decode cX11_feed 55 = .ok (.ishr, 1) := by decide +kernel
theorem dX11_feed_56 : decode cX11_feed 56 = .ok (.invokevirtual 213, 3) := by decide +kernel
theorem dX11_feed_59 : decode cX11_feed 59 = .ok (.iinc 3 (-1), 3) := by decide +kernel
theorem dX11_feed_62 : decode cX11_feed 62 = .ok (.goto (-20), 3) := by decide +kernel
theorem dX11_feed_65 : decode cX11_feed 65 = .ok (.aload_n 0, 1) := by decide +kernel
theorem dX11_feed_66 : decode cX11_feed 66 = .ok (.getfield 53, 3) := by decide +kernel
theorem dX11_feed_69 : decode cX11_feed 69 = .ok (.getfield 210, 3) := by decide +kernel
theorem dX11_feed_72 : decode cX11_feed 72 = .ok (.ireturn, 1) := by decide +kernel
def k_X11_feed_0 (F : FT) (Q : QT) : KT := o_iload 2 (o_ic (nI 1) (o_iclt (F 10) (o_iload 2 (o_ic (nI 4) (o_icle (F 17) (F 10))))))
def k_X11_feed_10 (F : FT) (Q : QT) : KT := o_aload 0 (o_ic (-1000000001) (o_cV 11 m_X11_finding 2 (o_iret Q)))
def k_X11_feed_17 (F : FT) (Q : QT) : KT := o_aload 0 (o_getR 11 4 (o_getI 10 3 (o_iload 2 (o_iadd (o_ic (nI 120) (o_icle (F 38) (o_aload 0 (o_ic (-1000000002) (o_cV 11 m_X11_finding 2 (o_iret Q))))))))))
def k_X11_feed_38 (F : FT) (Q : QT) : KT := o_iload 2 (o_ic (nI 1) (o_isub (o_istore 3 (F 42))))
def k_X11_feed_42 (F : FT) (Q : QT) : KT := o_iload 3 (o_iflt (F 65) (o_aload 0 (o_getR 11 4 (o_iload 1 (o_ic (nI 8) (o_iload 3 (o_imul (o_ishr (o_cV 10 m_X10_append 2 (o_iinc 3 (-1) (F 42)))))))))))
def k_X11_feed_65 (F : FT) (Q : QT) : KT := o_aload 0 (o_getR 11 4 (o_getI 10 3 (o_iret Q)))
set_option maxRecDepth 20000 in
theorem r_X11_feed {a0 : Nat} {a1 : Int32} {a2 : Int32} {n : Nat} {R : RR} {I : II} {J : JJ} {Q : QT} (hn : n + 0 ≤ 90) (h : ∀ F : FT, al_Wk F → al_Ok F (k_X11_feed_0 F Q) 0 → al_Ok F (k_X11_feed_10 F Q) 10 → al_Ok F (k_X11_feed_17 F Q) 17 → al_Ok F (k_X11_feed_38 F Q) 38 → al_Ok F (k_X11_feed_42 F Q) 42 → al_Ok F (k_X11_feed_65 F Q) 65 → F 0 [some (.ref a0), some (.int a1), some (.int a2), none] [] n R I J) : CT m_X11_feed 0 [.ref a0, .int a1, .int a2] n R I J Q :=
  CT.of (by decide) hn (fun _ => rfl) (fun _ => Nat.le_of_ble_eq_true rfl) (fun F p l e s m args below meth c Rm t Q0 C hQ hr hm => h F (fun _ _ _ _ _ _ _ _ => S_wk C)
    (S_iload_n C dX11_feed_0 rfl (S_iconst C dX11_feed_1 (by decide +kernel) (S_icmplt (tgt := 10) C dX11_feed_2 (by decide) (S_iload_n C dX11_feed_5 rfl (S_iconst C dX11_feed_6 (by decide +kernel) (S_icmple (tgt := 17) C dX11_feed_7 (by decide) (fun _ _ _ _ _ _ h9 => h9)))))))
    (S_aload_n C dX11_feed_10 rfl (S_ldc C dX11_feed_11 (al_at 328 (by decide +kernel) rfl) (S_cV (ci := 11) C ok_X11_finding rfl (al_at 329 (by decide +kernel) rfl) (Nat.le_of_ble_eq_true rfl) (Nat.le_of_ble_eq_true rfl) dX11_feed_13 (S_iret C hQ hr dX11_feed_16))))
    (S_aload_n C dX11_feed_17 rfl (S_getR (ci := 11) (j := 4) C inG11 rfl (Nat.le_of_ble_eq_true rfl) rfl (al_at 293 (by decide +kernel) rfl) dX11_feed_18 (S_getI (ci := 10) (j := 3) C inG10 rfl (Nat.le_of_ble_eq_true rfl) rfl (al_at 247 (by decide +kernel) rfl) dX11_feed_21 (S_iload_n C dX11_feed_24 rfl (S_iadd C dX11_feed_25 (S_bipush C dX11_feed_26 (by decide +kernel) (S_icmple (tgt := 38) C dX11_feed_28 (by decide) (S_aload_n C dX11_feed_31 rfl (S_ldc C dX11_feed_32 (al_at 356 (by decide +kernel) rfl) (S_cV (ci := 11) C ok_X11_finding rfl (al_at 329 (by decide +kernel) rfl) (Nat.le_of_ble_eq_true rfl) (Nat.le_of_ble_eq_true rfl) dX11_feed_34 (S_iret C hQ hr dX11_feed_37)))))))))))
    (S_iload_n C dX11_feed_38 rfl (S_iconst C dX11_feed_39 (by decide +kernel) (S_isub C dX11_feed_40 (S_istore_n C dX11_feed_41 rfl (Nat.le_of_ble_eq_true rfl) (fun _ _ _ _ _ _ h9 => h9)))))
    (S_iload_n C dX11_feed_42 rfl (S_iflt (tgt := 65) C dX11_feed_43 (by decide) (S_aload_n C dX11_feed_46 rfl (S_getR (ci := 11) (j := 4) C inG11 rfl (Nat.le_of_ble_eq_true rfl) rfl (al_at 293 (by decide +kernel) rfl) dX11_feed_47 (S_iload_n C dX11_feed_50 rfl (S_bipush C dX11_feed_51 (by decide +kernel) (S_iload_n C dX11_feed_53 rfl (S_imul C dX11_feed_54 (S_ishr C dX11_feed_55 (S_cV (ci := 10) C ok_X10_append rfl (al_at 668 (by decide +kernel) rfl) (Nat.le_of_ble_eq_true rfl) (Nat.le_of_ble_eq_true rfl) dX11_feed_56 (S_iinc C dX11_feed_59 (by decide +kernel) (Nat.le_of_ble_eq_true rfl) (S_goto (tgt := 42) C dX11_feed_62 (by decide)))))))))))))
    (S_aload_n C dX11_feed_65 rfl (S_getR (ci := 11) (j := 4) C inG11 rfl (Nat.le_of_ble_eq_true rfl) rfl (al_at 293 (by decide +kernel) rfl) dX11_feed_66 (S_getI (ci := 10) (j := 3) C inG10 rfl (Nat.le_of_ble_eq_true rfl) rfl (al_at 247 (by decide +kernel) rfl) dX11_feed_69 (S_iret C hQ hr dX11_feed_72)))))
theorem dX11_findPlot_0 : decode cX11_findPlot 0 = .ok (.bipush 81, 2) := by decide +kernel
theorem dX11_findPlot_2 : decode cX11_findPlot 2 = .ok (.istore_n 2, 1) := by decide +kernel
theorem dX11_findPlot_3 : decode cX11_findPlot 3 = .ok (.iconst 0, 1) := by decide +kernel
theorem dX11_findPlot_4 : decode cX11_findPlot 4 = .ok (.istore_n 3, 1) := by decide +kernel
theorem dX11_findPlot_5 : decode cX11_findPlot 5 = .ok (.iconst 1, 1) := by decide +kernel
theorem dX11_findPlot_6 : decode cX11_findPlot 6 = .ok (.istore 4, 2) := by decide +kernel
theorem dX11_findPlot_8 : decode cX11_findPlot 8 = .ok (.iload 4, 2) := by decide +kernel
theorem dX11_findPlot_10 : decode cX11_findPlot 10 = .ok (.sipush 4096, 3) := by decide +kernel
theorem dX11_findPlot_13 : decode cX11_findPlot 13 = .ok (.if_icmp .ge 52, 3) := by decide +kernel
theorem dX11_findPlot_16 : decode cX11_findPlot 16 = .ok (.iload 4, 2) := by decide +kernel
theorem dX11_findPlot_18 : decode cX11_findPlot 18 = .ok (.invokestatic 274, 3) := by decide +kernel
theorem dX11_findPlot_21 : decode cX11_findPlot 21 = .ok (.iload_n 1, 1) := by decide +kernel
theorem dX11_findPlot_22 : decode cX11_findPlot 22 = .ok (.if_icmp .ne 37, 3) := by decide +kernel
theorem dX11_findPlot_25 : decode cX11_findPlot 25 = .ok (.iload 4, 2) := by decide +kernel
theorem dX11_findPlot_27 : decode cX11_findPlot 27 = .ok (.invokestatic 279, 3) := by decide +kernel
theorem dX11_findPlot_30 : decode cX11_findPlot 30 = .ok (.istore 5, 2) := by decide +kernel
theorem dX11_findPlot_32 : decode cX11_findPlot 32 = .ok (.iload 5, 2) := by decide +kernel
theorem dX11_findPlot_34 : decode cX11_findPlot 34 = .ok (.invokestatic 282, 3) := by decide +kernel
theorem dX11_findPlot_37 : decode cX11_findPlot 37 = .ok (.istore 6, 2) := by decide +kernel
theorem dX11_findPlot_39 : decode cX11_findPlot 39 = .ok (.iload 6, 2) := by decide +kernel
theorem dX11_findPlot_41 : decode cX11_findPlot 41 = .ok (.iload_n 2, 1) := by decide +kernel
theorem dX11_findPlot_42 : decode cX11_findPlot 42 = .ok (.if_icmp .ge 17, 3) := by decide +kernel
theorem dX11_findPlot_45 : decode cX11_findPlot 45 = .ok (.iload 5, 2) := by decide +kernel
theorem dX11_findPlot_47 : decode cX11_findPlot 47 = .ok (.invokestatic 285, 3) := by decide +kernel
theorem dX11_findPlot_50 : decode cX11_findPlot 50 = .ok (.ifCond .eq 9, 3) := by decide +kernel
theorem dX11_findPlot_53 : decode cX11_findPlot 53 = .ok (.iload 6, 2) := by decide +kernel
theorem dX11_findPlot_55 : decode cX11_findPlot 55 = .ok (.istore_n 2, 1) := by decide +kernel
theorem dX11_findPlot_56 : decode cX11_findPlot 56 = .ok (.iload 4, 2) := by decide +kernel
theorem dX11_findPlot_58 : decode cX11_findPlot 58 = .ok (.istore_n 3, 1) := by decide +kernel
theorem dX11_findPlot_59 : decode cX11_findPlot 59 = .ok (.iinc 4 1, 3) := by decide +kernel
theorem dX11_findPlot_62 : decode cX11_findPlot 62 = .ok (.goto (-54), 3) := by decide +kernel
theorem dX11_findPlot_65 : decode cX11_findPlot 65 = .ok (.aload_n 0, 1) := by decide +kernel
theorem dX11_findPlot_66 : decode cX11_findPlot 66 = .ok (.getfield 68, 3) := by decide +kernel
theorem dX11_findPlot_69 : decode cX11_findPlot 69 = .ok (.iload_n 1, 1) := by decide +kernel
theorem dX11_findPlot_70 : decode cX11_findPlot 70 = .ok (.iload_n 2, 1) := by decide +kernel
theorem dX11_findPlot_71 : decode cX11_findPlot 71 = .ok (.iastore, 1) := by decide +kernel
theorem dX11_findPlot_72 : decode cX11_findPlot 72 = .ok (.aload_n 0, 1) := by decide +kernel
theorem dX11_findPlot_73 : decode cX11_findPlot 73 = .ok (.getfield 71, 3) := by decide +kernel
theorem dX11_findPlot_76 : decode cX11_findPlot 76 = .ok (.iload_n 1, 1) := by decide +kernel
theorem dX11_findPlot_77 : decode cX11_findPlot 77 = .ok (.iload_n 3, 1) := by decide +kernel
theorem dX11_findPlot_78 : decode cX11_findPlot 78 = .ok (.iastore, 1) := by decide +kernel
theorem dX11_findPlot_79 : decode cX11_findPlot 79 = .ok (.return_, 1) := by decide +kernel
def k_X11_findPlot_0 (F : FT) (Q : QT) : KT := o_ic (nI 81) (o_istore 2 (o_ic (nI 0) (o_istore 3 (o_ic (nI 1) (o_istore 4 (F 8))))))
def k_X11_findPlot_8 (F : FT) (Q : QT) : KT := o_iload 4 (o_ic (nI 4096) (o_icge (F 65) (o_iload 4 (o_cS m_J6_bitCount_0f7a4 1 (o_iload 1 (o_icne (F 59) (o_iload 4 (o_cS m_X11_widened 1 (o_istore 5 (o_iload 5 (o_cS m_X11_cornersOfShape 1 (o_istore 6 (o_iload 6 (o_iload 2 (o_icge (F 59) (o_iload 5 (o_cS m_X11_hangsTogether 1 (o_ifeq (F 59) (o_iload 6 (o_istore 2 (o_iload 4 (o_istore 3 (F 59)))))))))))))))))))))))
def k_X11_findPlot_59 (F : FT) (Q : QT) : KT := o_iinc 4 (nI 1) (F 8)
def k_X11_findPlot_65 (F : FT) (Q : QT) : KT := o_aload 0 (o_getR 11 7 (o_iload 1 (o_iload 2 (o_iast (o_aload 0 (o_getR 11 8 (o_iload 1 (o_iload 3 (o_iast (o_vret Q))))))))))
set_option maxRecDepth 20000 in
theorem r_X11_findPlot {a0 : Nat} {a1 : Int32} {n : Nat} {R : RR} {I : II} {J : JJ} {Q : QT} (hn : n + 0 ≤ 90) (h : ∀ F : FT, al_Wk F → al_Ok F (k_X11_findPlot_0 F Q) 0 → al_Ok F (k_X11_findPlot_8 F Q) 8 → al_Ok F (k_X11_findPlot_59 F Q) 59 → al_Ok F (k_X11_findPlot_65 F Q) 65 → F 0 [some (.ref a0), some (.int a1), none, none, none, none, none] [] n R I J) : CT m_X11_findPlot 0 [.ref a0, .int a1] n R I J Q :=
  CT.of (by decide) hn (fun _ => rfl) (fun _ => Nat.le_of_ble_eq_true rfl) (fun F p l e s m args below meth c Rm t Q0 C hQ hr hm => h F (fun _ _ _ _ _ _ _ _ => S_wk C)
    (S_bipush C dX11_findPlot_0 (by decide +kernel) (S_istore_n C dX11_findPlot_2 rfl (Nat.le_of_ble_eq_true rfl) (S_iconst C dX11_findPlot_3 (by decide +kernel) (S_istore_n C dX11_findPlot_4 rfl (Nat.le_of_ble_eq_true rfl) (S_iconst C dX11_findPlot_5 (by decide +kernel) (S_istore C dX11_findPlot_6 (Nat.le_of_ble_eq_true rfl) (fun _ _ _ _ _ _ h9 => h9)))))))
    (S_iload C dX11_findPlot_8 (S_sipush C dX11_findPlot_10 (by decide +kernel) (S_icmpge (tgt := 65) C dX11_findPlot_13 (by decide) (S_iload C dX11_findPlot_16 (S_cS C ok_J6_bitCount_0f7a4 (al_at 587 (by decide +kernel) rfl) (Nat.le_of_ble_eq_true rfl) (Nat.le_of_ble_eq_true rfl) dX11_findPlot_18 (S_iload_n C dX11_findPlot_21 rfl (S_icmpne (tgt := 59) C dX11_findPlot_22 (by decide) (S_iload C dX11_findPlot_25 (S_cS C ok_X11_widened (al_at 593 (by decide +kernel) rfl) (Nat.le_of_ble_eq_true rfl) (Nat.le_of_ble_eq_true rfl) dX11_findPlot_27 (S_istore C dX11_findPlot_30 (Nat.le_of_ble_eq_true rfl) (S_iload C dX11_findPlot_32 (S_cS C ok_X11_cornersOfShape (al_at 596 (by decide +kernel) rfl) (Nat.le_of_ble_eq_true rfl) (Nat.le_of_ble_eq_true rfl) dX11_findPlot_34 (S_istore C dX11_findPlot_37 (Nat.le_of_ble_eq_true rfl) (S_iload C dX11_findPlot_39 (S_iload_n C dX11_findPlot_41 rfl (S_icmpge (tgt := 59) C dX11_findPlot_42 (by decide) (S_iload C dX11_findPlot_45 (S_cS C ok_X11_hangsTogether (al_at 599 (by decide +kernel) rfl) (Nat.le_of_ble_eq_true rfl) (Nat.le_of_ble_eq_true rfl) dX11_findPlot_47 (S_ifeq (tgt := 59) C dX11_findPlot_50 (by decide) (S_iload C dX11_findPlot_53 (S_istore_n C dX11_findPlot_55 rfl (Nat.le_of_ble_eq_true rfl) (S_iload C dX11_findPlot_56 (S_istore_n C dX11_findPlot_58 rfl (Nat.le_of_ble_eq_true rfl) (fun _ _ _ _ _ _ h9 => h9))))))))))))))))))))))))
    (S_iinc C dX11_findPlot_59 (by decide +kernel) (Nat.le_of_ble_eq_true rfl) (S_goto (tgt := 8) C dX11_findPlot_62 (by decide)))
    (S_aload_n C dX11_findPlot_65 rfl (S_getR (ci := 11) (j := 7) C inG11 rfl (Nat.le_of_ble_eq_true rfl) rfl (al_at 296 (by decide +kernel) rfl) dX11_findPlot_66 (S_iload_n C dX11_findPlot_69 rfl (S_iload_n C dX11_findPlot_70 rfl (S_iast C dX11_findPlot_71 (S_aload_n C dX11_findPlot_72 rfl (S_getR (ci := 11) (j := 8) C inG11 rfl (Nat.le_of_ble_eq_true rfl) rfl (al_at 297 (by decide +kernel) rfl) dX11_findPlot_73 (S_iload_n C dX11_findPlot_76 rfl (S_iload_n C dX11_findPlot_77 rfl (S_iast C dX11_findPlot_78 (S_vret C hQ hr dX11_findPlot_79))))))))))))
theorem dX11_finding_0 : decode cX11_finding 0 = .ok (.ldc 81, 2) := by decide +kernel
theorem dX11_finding_2 : decode cX11_finding 2 = .ok (.iload_n 1, 1) := by decide +kernel
theorem dX11_finding_3 : decode cX11_finding 3 = .ok (.isub, 1) := by decide +kernel
theorem dX11_finding_4 : decode cX11_finding 4 = .ok (.istore_n 2, 1) := by decide +kernel
theorem dX11_finding_5 : decode cX11_finding 5 = .ok (.iload_n 2, 1) := by decide +kernel
theorem dX11_finding_6 : decode cX11_finding 6 = .ok (.ifCond .lt 19, 3) := by decide +kernel
theorem dX11_finding_9 : decode cX11_finding 9 = .ok (.iload_n 2, 1) := by decide +kernel
theorem dX11_finding_10 : decode cX11_finding 10 = .ok (.bipush 7, 2) := by decide +kernel
theorem dX11_finding_12 : decode cX11_finding 12 = .ok (.if_icmp .ge 13, 3) := by decide +kernel
theorem dX11_finding_15 : decode cX11_finding 15 = .ok (.aload_n 0, 1) := by decide +kernel
theorem dX11_finding_16 : decode cX11_finding 16 = .ok (.getfield 64, 3) := by decide +kernel
theorem dX11_finding_19 : decode cX11_finding 19 = .ok (.iload_n 2, 1) := by decide +kernel
theorem dX11_finding_20 : decode cX11_finding 20 = .ok (.dup2, 1) := by decide +kernel
theorem dX11_finding_21 : decode cX11_finding 21 = .ok (.iaload, 1) := by decide +kernel
theorem dX11_finding_22 : decode cX11_finding 22 = .ok (.iconst 1, 1) := by decide +kernel
theorem dX11_finding_23 : decode cX11_finding 23 = .ok (.iadd, 1) := by decide +kernel
theorem dX11_finding_24 : decode cX11_finding 24 = .ok (.iastore, 1) := by decide +kernel
theorem dX11_finding_25 : decode cX11_finding 25 = .ok (.iload_n 1, 1) := by decide +kernel
theorem dX11_finding_26 : decode cX11_finding 26 = .ok (.ireturn, 1) := by decide +kernel
def k_X11_finding_0 (F : FT) (Q : QT) : KT := o_ic (-1000000001) (o_iload 1 (o_isub (o_istore 2 (o_iload 2 (o_iflt (F 25) (o_iload 2 (o_ic (nI 7) (o_icge (F 25) (o_aload 0 (o_getR 11 6 (o_iload 2 (o_dup2 (o_iald (o_ic (nI 1) (o_iadd (o_iast (F 25)))))))))))))))))
def k_X11_finding_25 (F : FT) (Q : QT) : KT := o_iload 1 (o_iret Q)
set_option maxRecDepth 20000 in
theorem r_X11_finding {a0 : Nat} {a1 : Int32} {n : Nat} {R : RR} {I : II} {J : JJ} {Q : QT} (hn : n + 0 ≤ 90) (h : ∀ F : FT, al_Wk F → al_Ok F (k_X11_finding_0 F Q) 0 → al_Ok F (k_X11_finding_25 F Q) 25 → F 0 [some (.ref a0), some (.int a1), none] [] n R I J) : CT m_X11_finding 0 [.ref a0, .int a1] n R I J Q :=
  CT.of (by decide) hn (fun _ => rfl) (fun _ => Nat.le_of_ble_eq_true rfl) (fun F p l e s m args below meth c Rm t Q0 C hQ hr hm => h F (fun _ _ _ _ _ _ _ _ => S_wk C)
    (S_ldc C dX11_finding_0 (al_at 328 (by decide +kernel) rfl) (S_iload_n C dX11_finding_2 rfl (S_isub C dX11_finding_3 (S_istore_n C dX11_finding_4 rfl (Nat.le_of_ble_eq_true rfl) (S_iload_n C dX11_finding_5 rfl (S_iflt (tgt := 25) C dX11_finding_6 (by decide) (S_iload_n C dX11_finding_9 rfl (S_bipush C dX11_finding_10 (by decide +kernel) (S_icmpge (tgt := 25) C dX11_finding_12 (by decide) (S_aload_n C dX11_finding_15 rfl (S_getR (ci := 11) (j := 6) C inG11 rfl (Nat.le_of_ble_eq_true rfl) rfl (al_at 295 (by decide +kernel) rfl) dX11_finding_16 (S_iload_n C dX11_finding_19 rfl (S_dup2 C dX11_finding_20 (S_iald C dX11_finding_21 (S_iconst C dX11_finding_22 (by decide +kernel) (S_iadd C dX11_finding_23 (S_iast C dX11_finding_24 (fun _ _ _ _ _ _ h9 => h9))))))))))))))))))
    (S_iload_n C dX11_finding_25 rfl (S_iret C hQ hr dX11_finding_26)))
theorem dX11_hangsTogether_0 : decode cX11_hangsTogether 0 = .ok (.iload_n 0, 1) := by decide +kernel
theorem dX11_hangsTogether_1 : decode cX11_hangsTogether 1 = .ok (.iload_n 0, 1) := by decide +kernel
theorem dX11_hangsTogether_2 : decode cX11_hangsTogether 2 = .ok (.ineg, 1) := by decide +kernel
theorem dX11_hangsTogether_3 : decode cX11_hangsTogether 3 = .ok (.iand, 1) := by decide +kernel
theorem dX11_hangsTogether_4 : decode cX11_hangsTogether 4 = .ok (.istore_n 1, 1) := by decide +kernel
theorem dX11_hangsTogether_5 : decode cX11_hangsTogether 5 = .ok (.iconst 0, 1) := by decide +kernel
theorem dX11_hangsTogether_6 : decode cX11_hangsTogether 6 = .ok (.istore_n 2, 1) := by decide +kernel
theorem dX11_hangsTogether_7 : decode cX11_hangsTogether 7 = .ok (.iload_n 2, 1) := by decide +kernel
theorem dX11_hangsTogether_8 : decode cX11_hangsTogether 8 = .ok (.bipush 12, 2) := by decide +kernel
theorem dX11_hangsTogether_10 : decode cX11_hangsTogether 10 = .ok (.if_icmp .ge 31, 3) := by decide +kernel
theorem dX11_hangsTogether_13 : decode cX11_hangsTogether 13 = .ok (.iload_n 1, 1) := by decide +kernel
theorem dX11_hangsTogether_14 : decode cX11_hangsTogether 14 = .ok (.iconst 1, 1) := by decide +kernel
theorem dX11_hangsTogether_15 : decode cX11_hangsTogether 15 = .ok (.ishl, 1) := by decide +kernel
theorem dX11_hangsTogether_16 : decode cX11_hangsTogether 16 = .ok (.iload_n 1, 1) := by decide +kernel
theorem dX11_hangsTogether_17 : decode cX11_hangsTogether 17 = .ok (.iconst 1, 1) := by decide +kernel
theorem dX11_hangsTogether_18 : decode cX11_hangsTogether 18 = .ok (.ishr, 1) := by decide +kernel
theorem dX11_hangsTogether_19 : decode cX11_hangsTogether 19 = .ok (.ior, 1) := by decide +kernel
theorem dX11_hangsTogether_20 : decode cX11_hangsTogether 20 = .ok (.iload_n 1, 1) := by decide +kernel
theorem dX11_hangsTogether_21 : decode cX11_hangsTogether 21 = .ok (.iconst 5, 1) := by decide +kernel
theorem dX11_hangsTogether_22 : decode cX11_hangsTogether 22 = .ok (.ishl, 1) := by decide +kernel
theorem dX11_hangsTogether_23 : decode cX11_hangsTogether 23 = .ok (.ior, 1) := by decide +kernel
theorem dX11_hangsTogether_24 : decode cX11_hangsTogether 24 = .ok (.iload_n 1, 1) := by decide +kernel
theorem dX11_hangsTogether_25 : decode cX11_hangsTogether 25 = .ok (.iconst 5, 1) := by decide +kernel
theorem dX11_hangsTogether_26 : decode cX11_hangsTogether 26 = .ok (.ishr, 1) := by decide +kernel
theorem dX11_hangsTogether_27 : decode cX11_hangsTogether 27 = .ok (.ior, 1) := by decide +kernel
theorem dX11_hangsTogether_28 : decode cX11_hangsTogether 28 = .ok (.istore_n 3, 1) := by decide +kernel
theorem dX11_hangsTogether_29 : decode cX11_hangsTogether 29 = .ok (.iload_n 1, 1) := by decide +kernel
theorem dX11_hangsTogether_30 : decode cX11_hangsTogether 30 = .ok (.iload_n 3, 1) := by decide +kernel
theorem dX11_hangsTogether_31 : decode cX11_hangsTogether 31 = .ok (.iload_n 0, 1) := by decide +kernel
theorem dX11_hangsTogether_32 : decode cX11_hangsTogether 32 = .ok (.iand, 1) := by decide +kernel
theorem dX11_hangsTogether_33 : decode cX11_hangsTogether 33 = .ok (.ior, 1) := by decide +kernel
theorem dX11_hangsTogether_34 : decode cX11_hangsTogether 34 = .ok (.istore_n 1, 1) := by decide +kernel
theorem dX11_hangsTogether_35 : decode cX11_hangsTogether 35 = .ok (.iinc 2 1, 3) := by decide +kernel
theorem dX11_hangsTogether_38 : decode cX11_hangsTogether 38 = .ok (.goto (-31), 3) := by decide +kernel
theorem dX11_hangsTogether_41 : decode cX11_hangsTogether 41 = .ok (.iload_n 1, 1) := by decide +kernel
theorem dX11_hangsTogether_42 : decode cX11_hangsTogether 42 = .ok (.iload_n 0, 1) := by decide +kernel
theorem dX11_hangsTogether_43 : decode cX11_hangsTogether 43 = .ok (.if_icmp .ne 7, 3) := by decide +kernel
theorem dX11_hangsTogether_46 : decode cX11_hangsTogether 46 = .ok (.iconst 1, 1) := by decide +kernel
theorem dX11_hangsTogether_47 : decode cX11_hangsTogether 47 = .ok (.goto 4, 3) := by decide +kernel
theorem dX11_hangsTogether_50 : decode cX11_hangsTogether 50 = .ok (.iconst 0, 1) := by decide +kernel
theorem dX11_hangsTogether_51 : decode cX11_hangsTogether 51 = .ok (.ireturn, 1) := by decide +kernel
def k_X11_hangsTogether_0 (F : FT) (Q : QT) : KT := o_iload 0 (o_iload 0 (o_ineg (o_iand (o_istore 1 (o_ic (nI 0) (o_istore 2 (F 7)))))))
def k_X11_hangsTogether_7 (F : FT) (Q : QT) : KT := o_iload 2 (o_ic (nI 12) (o_icge (F 41) (o_iload 1 (o_ic (nI 1) (o_ishl (o_iload 1 (o_ic (nI 1) (o_ishr (o_ior (o_iload 1 (o_ic (nI 5) (o_ishl (o_ior (o_iload 1 (o_ic (nI 5) (o_ishr (o_ior (o_istore 3 (o_iload 1 (o_iload 3 (o_iload 0 (o_iand (o_ior (o_istore 1 (o_iinc 2 (nI 1) (F 7))))))))))))))))))))))))))
def k_X11_hangsTogether_41 (F : FT) (Q : QT) : KT := o_iload 1 (o_iload 0 (o_icne (F 50) (o_ic (nI 1) (F 51))))
def k_X11_hangsTogether_50 (F : FT) (Q : QT) : KT := o_ic (nI 0) (F 51)
def k_X11_hangsTogether_51 (F : FT) (Q : QT) : KT := o_zret Q
set_option maxRecDepth 20000 in
theorem r_X11_hangsTogether {a0 : Int32} {n : Nat} {R : RR} {I : II} {J : JJ} {Q : QT} (hn : n + 0 ≤ 90) (h : ∀ F : FT, al_Wk F → al_Ok F (k_X11_hangsTogether_0 F Q) 0 → al_Ok F (k_X11_hangsTogether_7 F Q) 7 → al_Ok F (k_X11_hangsTogether_41 F Q) 41 → al_Ok F (k_X11_hangsTogether_50 F Q) 50 → al_Ok F (k_X11_hangsTogether_51 F Q) 51 → F 0 [some (.int a0), none, none, none] [] n R I J) : CT m_X11_hangsTogether 0 [.int a0] n R I J Q :=
  CT.of (by decide) hn (fun _ => rfl) (fun _ => Nat.le_of_ble_eq_true rfl) (fun F p l e s m args below meth c Rm t Q0 C hQ hr hm => h F (fun _ _ _ _ _ _ _ _ => S_wk C)
    (S_iload_n C dX11_hangsTogether_0 rfl (S_iload_n C dX11_hangsTogether_1 rfl (S_ineg C dX11_hangsTogether_2 (S_iand C dX11_hangsTogether_3 (S_istore_n C dX11_hangsTogether_4 rfl (Nat.le_of_ble_eq_true rfl) (S_iconst C dX11_hangsTogether_5 (by decide +kernel) (S_istore_n C dX11_hangsTogether_6 rfl (Nat.le_of_ble_eq_true rfl) (fun _ _ _ _ _ _ h9 => h9))))))))
    (S_iload_n C dX11_hangsTogether_7 rfl (S_bipush C dX11_hangsTogether_8 (by decide +kernel) (S_icmpge (tgt := 41) C dX11_hangsTogether_10 (by decide) (S_iload_n C dX11_hangsTogether_13 rfl (S_iconst C dX11_hangsTogether_14 (by decide +kernel) (S_ishl C dX11_hangsTogether_15 (S_iload_n C dX11_hangsTogether_16 rfl (S_iconst C dX11_hangsTogether_17 (by decide +kernel) (S_ishr C dX11_hangsTogether_18 (S_ior C dX11_hangsTogether_19 (S_iload_n C dX11_hangsTogether_20 rfl (S_iconst C dX11_hangsTogether_21 (by decide +kernel) (S_ishl C dX11_hangsTogether_22 (S_ior C dX11_hangsTogether_23 (S_iload_n C dX11_hangsTogether_24 rfl (S_iconst C dX11_hangsTogether_25 (by decide +kernel) (S_ishr C dX11_hangsTogether_26 (S_ior C dX11_hangsTogether_27 (S_istore_n C dX11_hangsTogether_28 rfl (Nat.le_of_ble_eq_true rfl) (S_iload_n C dX11_hangsTogether_29 rfl (S_iload_n C dX11_hangsTogether_30 rfl (S_iload_n C dX11_hangsTogether_31 rfl (S_iand C dX11_hangsTogether_32 (S_ior C dX11_hangsTogether_33 (S_istore_n C dX11_hangsTogether_34 rfl (Nat.le_of_ble_eq_true rfl) (S_iinc C dX11_hangsTogether_35 (by decide +kernel) (Nat.le_of_ble_eq_true rfl) (S_goto (tgt := 7) C dX11_hangsTogether_38 (by decide))))))))))))))))))))))))))))
    (S_iload_n C dX11_hangsTogether_41 rfl (S_iload_n C dX11_hangsTogether_42 rfl (S_icmpne (tgt := 50) C dX11_hangsTogether_43 (by decide) (S_iconst C dX11_hangsTogether_46 (by decide +kernel) (S_goto (tgt := 51) C dX11_hangsTogether_47 (by decide))))))
    (S_iconst C dX11_hangsTogether_50 (by decide +kernel) (fun _ _ _ _ _ _ h9 => h9))
    (S_zret C hQ hr dX11_hangsTogether_51))
theorem dX11_house_0 : decode cX11_house 0 = .ok (.iload_n 1, 1) := by decide +kernel
theorem dX11_house_1 : decode cX11_house 1 = .ok (.invokestatic 96, 3) := by decide +kernel
theorem dX11_house_4 : decode cX11_house 4 = .ok (.ifCond .eq 10, 3) := by decide +kernel
theorem dX11_house_7 : decode cX11_house 7 = .ok (.iload_n 2, 1) := by decide +kernel
theorem dX11_house_8 : decode cX11_house 8 = .ok (.invokestatic 99, 3) := by decide +kernel
theorem dX11_house_11 : decode cX11_house 11 = .ok (.ifCond .ne 10, 3) := by decide +kernel
theorem dX11_house_14 : decode cX11_house 14 = .ok (.aload_n 0, 1) := by decide +kernel
theorem dX11_house_15 : decode cX11_house 15 = .ok (.ldc 81, 2) := by decide +kernel
theorem dX11_house_17 : decode cX11_house 17 = .ok (.invokevirtual 82, 3) := by decide +kernel
theorem dX11_house_20 : decode cX11_house 20 = .ok (.ireturn, 1) := by decide +kernel
theorem dX11_house_21 : decode cX11_house 21 = .ok (.aload_n 0, 1) := by decide +kernel
theorem dX11_house_22 : decode cX11_house 22 = .ok (.getfield 30, 3) := by decide +kernel
theorem dX11_house_25 : decode cX11_house 25 = .ok (.getfield 102, 3) := by decide +kernel
theorem dX11_house_28 : decode cX11_house 28 = .ok (.bipush 6, 2) := by decide +kernel
theorem dX11_house_30 : decode cX11_house 30 = .ok (.if_icmp .lt 10, 3) := by decide +kernel
theorem dX11_house_33 : decode cX11_house 33 = .ok (.aload_n 0, 1) := by decide +kernel
theorem dX11_house_34 : decode cX11_house 34 = .ok (.ldc 106, 2) := by decide +kernel
theorem dX11_house_36 : decode cX11_house 36 = .ok (.invokevirtual 82, 3) := by decide +kernel
theorem dX11_house_39 : decode cX11_house 39 = .ok (.ireturn, 1) := by decide +kernel
theorem dX11_house_40 : decode cX11_house 40 = .ok (.aload_n 0, 1) := by decide +kernel
theorem dX11_house_41 : decode cX11_house 41 = .ok (.getfield 30, 3) := by decide +kernel
theorem dX11_house_44 : decode cX11_house 44 = .ok (.iload_n 1, 1) := by decide +kernel
theorem dX11_house_45 : decode cX11_house 45 = .ok (.iload_n 2, 1) := by decide +kernel
theorem dX11_house_46 : decode cX11_house 46 = .ok (.invokevirtual 107, 3) := by decide +kernel
theorem dX11_house_49 : decode cX11_house 49 = .ok (.ireturn, 1) := by decide +kernel
def k_X11_house_0 (F : FT) (Q : QT) : KT := o_iload 1 (o_cS m_X11_isKind 1 (o_ifeq (F 14) (o_iload 2 (o_cS m_X11_isRate 1 (o_ifne (F 21) (F 14))))))
def k_X11_house_14 (F : FT) (Q : QT) : KT := o_aload 0 (o_ic (-1000000001) (o_cV 11 m_X11_finding 2 (o_iret Q)))
def k_X11_house_21 (F : FT) (Q : QT) : KT := o_aload 0 (o_getR 11 0 (o_getI 9 3 (o_ic (nI 6) (o_iclt (F 40) (o_aload 0 (o_ic (-1000000002) (o_cV 11 m_X11_finding 2 (o_iret Q))))))))
def k_X11_house_40 (F : FT) (Q : QT) : KT := o_aload 0 (o_getR 11 0 (o_iload 1 (o_iload 2 (o_cV 9 m_X9_build 3 (o_iret Q)))))
set_option maxRecDepth 20000 in
theorem r_X11_house {a0 : Nat} {a1 : Int32} {a2 : Int32} {n : Nat} {R : RR} {I : II} {J : JJ} {Q : QT} (hn : n + 0 ≤ 90) (h : ∀ F : FT, al_Wk F → al_Ok F (k_X11_house_0 F Q) 0 → al_Ok F (k_X11_house_14 F Q) 14 → al_Ok F (k_X11_house_21 F Q) 21 → al_Ok F (k_X11_house_40 F Q) 40 → F 0 [some (.ref a0), some (.int a1), some (.int a2)] [] n R I J) : CT m_X11_house 0 [.ref a0, .int a1, .int a2] n R I J Q :=
  CT.of (by decide) hn (fun _ => rfl) (fun _ => Nat.le_of_ble_eq_true rfl) (fun F p l e s m args below meth c Rm t Q0 C hQ hr hm => h F (fun _ _ _ _ _ _ _ _ => S_wk C)
    (S_iload_n C dX11_house_0 rfl (S_cS C ok_X11_isKind (al_at 350 (by decide +kernel) rfl) (Nat.le_of_ble_eq_true rfl) (Nat.le_of_ble_eq_true rfl) dX11_house_1 (S_ifeq (tgt := 14) C dX11_house_4 (by decide) (S_iload_n C dX11_house_7 rfl (S_cS C ok_X11_isRate (al_at 353 (by decide +kernel) rfl) (Nat.le_of_ble_eq_true rfl) (Nat.le_of_ble_eq_true rfl) dX11_house_8 (S_ifne (tgt := 21) C dX11_house_11 (by decide) (fun _ _ _ _ _ _ h9 => h9)))))))
    (S_aload_n C dX11_house_14 rfl (S_ldc C dX11_house_15 (al_at 328 (by decide +kernel) rfl) (S_cV (ci := 11) C ok_X11_finding rfl (al_at 329 (by decide +kernel) rfl) (Nat.le_of_ble_eq_true rfl) (Nat.le_of_ble_eq_true rfl) dX11_house_17 (S_iret C hQ hr dX11_house_20))))
    (S_aload_n C dX11_house_21 rfl (S_getR (ci := 11) (j := 0) C inG11 rfl (Nat.le_of_ble_eq_true rfl) rfl (al_at 289 (by decide +kernel) rfl) dX11_house_22 (S_getI (ci := 9) (j := 3) C inG9 rfl (Nat.le_of_ble_eq_true rfl) rfl (al_at 181 (by decide +kernel) rfl) dX11_house_25 (S_bipush C dX11_house_28 (by decide +kernel) (S_icmplt (tgt := 40) C dX11_house_30 (by decide) (S_aload_n C dX11_house_33 rfl (S_ldc C dX11_house_34 (al_at 356 (by decide +kernel) rfl) (S_cV (ci := 11) C ok_X11_finding rfl (al_at 329 (by decide +kernel) rfl) (Nat.le_of_ble_eq_true rfl) (Nat.le_of_ble_eq_true rfl) dX11_house_36 (S_iret C hQ hr dX11_house_39)))))))))
    (S_aload_n C dX11_house_40 rfl (S_getR (ci := 11) (j := 0) C inG11 rfl (Nat.le_of_ble_eq_true rfl) rfl (al_at 289 (by decide +kernel) rfl) dX11_house_41 (S_iload_n C dX11_house_44 rfl (S_iload_n C dX11_house_45 rfl (S_cV (ci := 9) C ok_X9_build rfl (al_at 357 (by decide +kernel) rfl) (Nat.le_of_ble_eq_true rfl) (Nat.le_of_ble_eq_true rfl) dX11_house_46 (S_iret C hQ hr dX11_house_49)))))))
theorem dX11_image_0 : decode cX11_image 0 = .ok (.aload_n 0, 1) := by decide +kernel
theorem dX11_image_1 : decode cX11_image 1 = .ok (.getfield 36, 3) := by decide +kernel
theorem dX11_image_4 : decode cX11_image 4 = .ok (.aload_n 0, 1) := by decide +kernel
theorem dX11_image_5 : decode cX11_image 5 = .ok (.getfield 30, 3) := by decide +kernel
theorem dX11_image_8 : decode cX11_image 8 = .ok (.invokevirtual 257, 3) := by decide +kernel
theorem dX11_image_11 : decode cX11_image 11 = .ok (.aload_n 0, 1) := by decide +kernel
theorem dX11_image_12 : decode cX11_image 12 = .ok (.iconst 1, 1) := by decide +kernel
theorem dX11_image_13 : decode cX11_image 13 = .ok (.putfield 259, 3) := by decide +kernel
theorem dX11_image_16 : decode cX11_image 16 = .ok (.iconst 1, 1) := by decide +kernel
theorem dX11_image_17 : decode cX11_image 17 = .ok (.ireturn, 1) := by decide +kernel
def k_X11_image_0 (F : FT) (Q : QT) : KT := o_aload 0 (o_getR 11 1 (o_aload 0 (o_getR 11 0 (o_cV 9 m_X9_become 2 (o_aload 0 (o_ic (nI 1) (o_putZ 11 2 (o_ic (nI 1) (o_iret Q)))))))))
set_option maxRecDepth 20000 in
theorem r_X11_image {a0 : Nat} {n : Nat} {R : RR} {I : II} {J : JJ} {Q : QT} (hn : n + 0 ≤ 90) (h : ∀ F : FT, al_Wk F → al_Ok F (k_X11_image_0 F Q) 0 → F 0 [some (.ref a0)] [] n R I J) : CT m_X11_image 0 [.ref a0] n R I J Q :=
  CT.of (by decide) hn (fun _ => rfl) (fun _ => Nat.le_of_ble_eq_true rfl) (fun F p l e s m args below meth c Rm t Q0 C hQ hr hm => h F (fun _ _ _ _ _ _ _ _ => S_wk C)
    (S_aload_n C dX11_image_0 rfl (S_getR (ci := 11) (j := 1) C inG11 rfl (Nat.le_of_ble_eq_true rfl) rfl (al_at 290 (by decide +kernel) rfl) dX11_image_1 (S_aload_n C dX11_image_4 rfl (S_getR (ci := 11) (j := 0) C inG11 rfl (Nat.le_of_ble_eq_true rfl) rfl (al_at 289 (by decide +kernel) rfl) dX11_image_5 (S_cV (ci := 9) C ok_X9_become rfl (al_at 879 (by decide +kernel) rfl) (Nat.le_of_ble_eq_true rfl) (Nat.le_of_ble_eq_true rfl) dX11_image_8 (S_aload_n C dX11_image_11 rfl (S_iconst C dX11_image_12 (by decide +kernel) (S_putZ (ci := 11) (j := 2) C inG11 rfl (Nat.le_of_ble_eq_true rfl) tyX11 tyX11_ok nmX11 rfl rfl (tyX11_ok 2 (Nat.le_of_ble_eq_true rfl)) (al_at 291 (by decide +kernel) rfl) dX11_image_13 (S_iconst C dX11_image_16 (by decide +kernel) (S_iret C hQ hr dX11_image_17)))))))))))
theorem dX11_init_0 : decode cX11_init 0 = .ok (.aload_n 0, 1) := by decide +kernel
theorem dX11_init_1 : decode cX11_init 1 = .ok (.invokespecial 1, 3) := by decide +kernel
theorem dX11_init_4 : decode cX11_init 4 = .ok (.bipush 6, 2) := by decide +kernel
theorem dX11_init_6 : decode cX11_init 6 = .ok (.anewarray 7, 3) := by decide +kernel
theorem dX11_init_9 : decode cX11_init 9 = .ok (.dup, 1) := by decide +kernel
theorem dX11_init_10 : decode cX11_init 10 = .ok (.iconst 0, 1) := by decide +kernel
theorem dX11_init_11 : decode cX11_init 11 = .ok (.new 7, 3) := by decide +kernel
theorem dX11_init_14 : decode cX11_init 14 = .ok (.dup, 1) := by decide +kernel
theorem dX11_init_15 : decode cX11_init 15 = .ok (.invokespecial 9, 3) := by decide +kernel
theorem dX11_init_18 : decode cX11_init 18 = .ok (.aastore, 1) := by decide +kernel
theorem dX11_init_19 : decode cX11_init 19 = .ok (.dup, 1) := by decide +kernel
theorem dX11_init_20 : decode cX11_init 20 = .ok (.iconst 1, 1) := by decide +kernel
theorem dX11_init_21 : decode cX11_init 21 = .ok (.new 10, 3) := by decide +kernel
theorem dX11_init_24 : decode cX11_init 24 = .ok (.dup, 1) := by decide +kernel
theorem dX11_init_25 : decode cX11_init 25 = .ok (.invokespecial 12, 3) := by decide +kernel
theorem dX11_init_28 : decode cX11_init 28 = .ok (.aastore, 1) := by decide +kernel
theorem dX11_init_29 : decode cX11_init 29 = .ok (.dup, 1) := by decide +kernel
theorem dX11_init_30 : decode cX11_init 30 = .ok (.iconst 2, 1) := by decide +kernel
theorem dX11_init_31 : decode cX11_init 31 = .ok (.new 13, 3) := by decide +kernel
theorem dX11_init_34 : decode cX11_init 34 = .ok (.dup, 1) := by decide +kernel
theorem dX11_init_35 : decode cX11_init 35 = .ok (.invokespecial 15, 3) := by decide +kernel
theorem dX11_init_38 : decode cX11_init 38 = .ok (.aastore, 1) := by decide +kernel
theorem dX11_init_39 : decode cX11_init 39 = .ok (.dup, 1) := by decide +kernel
theorem dX11_init_40 : decode cX11_init 40 = .ok (.iconst 3, 1) := by decide +kernel
theorem dX11_init_41 : decode cX11_init 41 = .ok (.new 16, 3) := by decide +kernel
theorem dX11_init_44 : decode cX11_init 44 = .ok (.dup, 1) := by decide +kernel
theorem dX11_init_45 : decode cX11_init 45 = .ok (.invokespecial 18, 3) := by decide +kernel
theorem dX11_init_48 : decode cX11_init 48 = .ok (.aastore, 1) := by decide +kernel
theorem dX11_init_49 : decode cX11_init 49 = .ok (.dup, 1) := by decide +kernel
theorem dX11_init_50 : decode cX11_init 50 = .ok (.iconst 4, 1) := by decide +kernel
theorem dX11_init_51 : decode cX11_init 51 = .ok (.new 19, 3) := by decide +kernel
theorem dX11_init_54 : decode cX11_init 54 = .ok (.dup, 1) := by decide +kernel
theorem dX11_init_55 : decode cX11_init 55 = .ok (.invokespecial 21, 3) := by decide +kernel
theorem dX11_init_58 : decode cX11_init 58 = .ok (.aastore, 1) := by decide +kernel
theorem dX11_init_59 : decode cX11_init 59 = .ok (.dup, 1) := by decide +kernel
theorem dX11_init_60 : decode cX11_init 60 = .ok (.iconst 5, 1) := by decide +kernel
theorem dX11_init_61 : decode cX11_init 61 = .ok (.new 22, 3) := by decide +kernel
theorem dX11_init_64 : decode cX11_init 64 = .ok (.dup, 1) := by decide +kernel
theorem dX11_init_65 : decode cX11_init 65 = .ok (.invokespecial 24, 3) := by decide +kernel
theorem dX11_init_68 : decode cX11_init 68 = .ok (.aastore, 1) := by decide +kernel
theorem dX11_init_69 : decode cX11_init 69 = .ok (.astore_n 1, 1) := by decide +kernel
theorem dX11_init_70 : decode cX11_init 70 = .ok (.aload_n 0, 1) := by decide +kernel
theorem dX11_init_71 : decode cX11_init 71 = .ok (.new 25, 3) := by decide +kernel
theorem dX11_init_74 : decode cX11_init 74 = .ok (.dup, 1) := by decide +kernel
theorem dX11_init_75 : decode cX11_init 75 = .ok (.aload_n 1, 1) := by decide +kernel
theorem dX11_init_76 : decode cX11_init 76 = .ok (.invokespecial 27, 3) := by decide +kernel
theorem dX11_init_79 : decode cX11_init 79 = .ok (.putfield 30, 3) := by decide +kernel
theorem dX11_init_82 : decode cX11_init 82 = .ok (.aload_n 0, 1) := by decide +kernel
theorem dX11_init_83 : decode cX11_init 83 = .ok (.new 25, 3) := by decide +kernel
theorem dX11_init_86 : decode cX11_init 86 = .ok (.dup, 1) := by decide +kernel
theorem dX11_init_87 : decode cX11_init 87 = .ok (.aload_n 1, 1) := by decide +kernel
theorem dX11_init_88 : decode cX11_init 88 = .ok (.invokespecial 27, 3) := by decide +kernel
theorem dX11_init_91 : decode cX11_init 91 = .ok (.putfield 36, 3) := by decide +kernel
theorem dX11_init_94 : decode cX11_init 94 = .ok (.aload_n 0, 1) := by decide +kernel
theorem dX11_init_95 : decode cX11_init 95 = .ok (.new 39, 3) := by decide +kernel
theorem dX11_init_98 : decode cX11_init 98 = .ok (.dup, 1) := by decide +kernel
theorem dX11_init_99 : decode cX11_init 99 = .ok (.aload_n 0, 1) := by decide +kernel
theorem dX11_init_100 : decode cX11_init 100 = .ok (.getfield 30, 3) := by decide +kernel
theorem dX11_init_103 : decode cX11_init 103 = .ok (.invokespecial 41, 3) := by decide +kernel
theorem dX11_init_106 : decode cX11_init 106 = .ok (.putfield 44, 3) := by decide +kernel
theorem dX11_init_109 : decode cX11_init 109 = .ok (.aload_n 0, 1) := by decide +kernel
theorem dX11_init_110 : decode cX11_init 110 = .ok (.new 48, 3) := by decide +kernel
theorem dX11_init_113 : decode cX11_init 113 = .ok (.dup, 1) := by decide +kernel
theorem dX11_init_114 : decode cX11_init 114 = .ok (.aload_n 0, 1) := by decide +kernel
theorem dX11_init_115 : decode cX11_init 115 = .ok (.getfield 30, 3) := by decide +kernel
theorem dX11_init_118 : decode cX11_init 118 = .ok (.new 25, 3) := by decide +kernel
theorem dX11_init_121 : decode cX11_init 121 = .ok (.dup, 1) := by decide +kernel
theorem dX11_init_122 : decode cX11_init 122 = .ok (.aload_n 1, 1) := by decide +kernel
theorem dX11_init_123 : decode cX11_init 123 = .ok (.invokespecial 27, 3) := by decide +kernel
theorem dX11_init_126 : decode cX11_init 126 = .ok (.invokespecial 50, 3) := by decide +kernel
theorem dX11_init_129 : decode cX11_init 129 = .ok (.putfield 53, 3) := by decide +kernel
theorem dX11_init_132 : decode cX11_init 132 = .ok (.aload_n 0, 1) := by decide +kernel
theorem dX11_init_133 : decode cX11_init 133 = .ok (.iconst 4, 1) := by decide +kernel
theorem dX11_init_134 : decode cX11_init 134 = .ok (.anewarray 57, 3) := by decide +kernel
theorem dX11_init_137 : decode cX11_init 137 = .ok (.putfield 59, 3) := by decide +kernel
theorem dX11_init_140 : decode cX11_init 140 = .ok (.iconst 0, 1) := by decide +kernel
theorem dX11_init_141 : decode cX11_init 141 = .ok (.istore_n 2, 1) := by decide +kernel
theorem dX11_init_142 : decode cX11_init 142 = .ok (.iload_n 2, 1) := by decide +kernel
theorem dX11_init_143 : decode cX11_init 143 = .ok (.iconst 4, 1) := by decide +kernel
theorem dX11_init_144 : decode cX11_init 144 = .ok (.if_icmp .ge 22, 3) := by decide +kernel
theorem dX11_init_147 : decode cX11_init 147 = .ok (.aload_n 0, 1) := by decide +kernel
theorem dX11_init_148 : decode cX11_init 148 = .ok (.getfield 59, 3) := by decide +kernel
theorem dX11_init_151 : decode cX11_init 151 = .ok (.iload_n 2, 1) := by decide +kernel
theorem dX11_init_152 : decode cX11_init 152 = .ok (.new 57, 3) := by decide +kernel
theorem dX11_init_155 : decode cX11_init 155 = .ok (.dup, 1) := by decide +kernel
theorem dX11_init_156 : decode cX11_init 156 = .ok (.invokespecial 63, 3) := by decide +kernel
theorem dX11_init_159 : decode cX11_init 159 = .ok (.aastore, 1) := by decide +kernel
theorem dX11_init_160 : decode cX11_init 160 = .ok (.iinc 2 1, 3) := by decide +kernel
theorem dX11_init_163 : decode cX11_init 163 = .ok (.goto (-21), 3) := by decide +kernel
theorem dX11_init_166 : decode cX11_init 166 = .ok (.aload_n 0, 1) := by decide +kernel
theorem dX11_init_167 : decode cX11_init 167 = .ok (.bipush 7, 2) := by decide +kernel
theorem dX11_init_169 : decode cX11_init 169 = .ok (.newarray .int, 2) := by decide +kernel
theorem dX11_init_171 : decode cX11_init 171 = .ok (.putfield 64, 3) := by decide +kernel
theorem dX11_init_174 : decode cX11_init 174 = .ok (.aload_n 0, 1) := by decide +kernel
theorem dX11_init_175 : decode cX11_init 175 = .ok (.bipush 13, 2) := by decide +kernel
theorem dX11_init_177 : decode cX11_init 177 = .ok (.newarray .int, 2) := by decide +kernel
theorem dX11_init_179 : decode cX11_init 179 = .ok (.putfield 68, 3) := by decide +kernel
theorem dX11_init_182 : decode cX11_init 182 = .ok (.aload_n 0, 1) := by decide +kernel
theorem dX11_init_183 : decode cX11_init 183 = .ok (.bipush 13, 2) := by decide +kernel
theorem dX11_init_185 : decode cX11_init 185 = .ok (.newarray .int, 2) := by decide +kernel
theorem dX11_init_187 : decode cX11_init 187 = .ok (.putfield 71, 3) := by decide +kernel
theorem dX11_init_190 : decode cX11_init 190 = .ok (.return_, 1) := by decide +kernel
def k_X11_init_0 (F : FT) (Q : QT) (ne : Nat) : KT := o_aload 0 (o_oinit (o_ic (nI 6) (o_newa ne 3 6 (o_dup (o_ic (nI 0) (o_new ne 3 (o_dup (o_cI ne m_X3_init 0 1 (o_aast 3 3 (o_dup (o_ic (nI 1) (o_new ne 5 (o_dup (o_cI ne m_X5_init 0 1 (o_aast 3 5 (o_dup (o_ic (nI 2) (o_new ne 6 (o_dup (o_cI ne m_X6_init 0 1 (o_aast 3 6 (o_dup (o_ic (nI 3) (o_new ne 0 (o_dup (o_cI ne m_X0_init 0 1 (o_aast 3 0 (o_dup (o_ic (nI 4) (o_new ne 4 (o_dup (o_cI ne m_X4_init 0 1 (o_aast 3 4 (o_dup (o_ic (nI 5) (o_new ne 1 (o_dup (o_cI ne m_X1_init 0 1 (o_aast 3 1 (o_astore 1 (o_aload 0 (o_new ne 9 (o_dup (o_aload 1 (o_cI ne m_X9_init 14 2 (o_putR 11 0 (o_aload 0 (o_new ne 9 (o_dup (o_aload 1 (o_cI ne m_X9_init 14 2 (o_putR 11 1 (o_aload 0 (o_new ne 8 (o_dup (o_aload 0 (o_getR 11 0 (o_cI ne m_X8_init 6 2 (o_putR 11 3 (o_aload 0 (o_new ne 10 (o_dup (o_aload 0 (o_getR 11 0 (o_new ne 9 (o_dup (o_aload 1 (o_cI ne m_X9_init 14 2 (o_cI ne m_X10_init 1 3 (o_putR 11 4 (o_aload 0 (o_ic (nI 4) (o_newa ne 5 4 (o_putR 11 5 (o_ic (nI 0) (o_istore 2 (F 142)))))))))))))))))))))))))))))))))))))))))))))))))))))))))))))))))))))))))))))
def k_X11_init_142 (F : FT) (Q : QT) (ne : Nat) : KT := o_iload 2 (o_ic (nI 4) (o_icge (F 166) (o_aload 0 (o_getR 11 5 (o_iload 2 (o_new ne 7 (o_dup (o_cI ne m_X7_init 1 1 (o_aast 5 7 (o_iinc 2 (nI 1) (F 142)))))))))))
def k_X11_init_166 (F : FT) (Q : QT) (ne : Nat) : KT := o_aload 0 (o_ic (nI 7) (o_newa ne 0 7 (o_putR 11 6 (o_aload 0 (o_ic (nI 13) (o_newa ne 0 13 (o_putR 11 7 (o_aload 0 (o_ic (nI 13) (o_newa ne 0 13 (o_putR 11 8 (o_cret ne Q))))))))))))
set_option maxRecDepth 20000 in
theorem r_X11_init {a0 : Nat} {n : Nat} {R : RR} {I : II} {J : JJ} {Q : QT} (hn : n + 73 ≤ 90) (h : ∀ F : FT, al_Wk F → al_Ok F (k_X11_init_0 F Q (n + 73)) 0 → al_Ok F (k_X11_init_142 F Q (n + 73)) 142 → al_Ok F (k_X11_init_166 F Q (n + 73)) 166 → F 0 [some (.ref a0), none, none] [] n R I J) : CT m_X11_init 73 [.ref a0] n R I J Q :=
  CT.of (by decide) hn (fun _ => rfl) (fun _ => Nat.le_of_ble_eq_true rfl) (fun F p l e s m args below meth c Rm t Q0 C hQ hr hm => h F (fun _ _ _ _ _ _ _ _ => S_wk C)
    (S_aload_n C dX11_init_0 rfl (S_oinit C (al_at 86 (by decide +kernel) rfl) (al_at 87 (by decide +kernel) rfl) (al_at 88 (by decide +kernel) rfl) (Nat.le_of_ble_eq_true rfl) (Nat.le_of_ble_eq_true rfl) dX11_init_1 (S_bipush C dX11_init_4 (by decide +kernel) (S_anewa (ak := 3) C (fun _ _ _ _ _ _ => rfl) (fun _ => rfl) (al_at 89 (by decide +kernel) rfl) (by decide) dX11_init_6 (S_dup C dX11_init_9 (S_iconst C dX11_init_10 (by decide +kernel) (S_new (ci := 3) C inG3 rfl rfl tyX3 tyX3_ok (by decide +kernel) (al_at 89 (by decide +kernel) rfl) (al_at 91 (by decide +kernel) rfl) (al_at 60 (by decide +kernel) rfl) dX11_init_11 (S_dup C dX11_init_14 (S_cI C ok_X3_init (al_at 92 (by decide +kernel) rfl) (Nat.le_of_ble_eq_true rfl) (Nat.le_of_ble_eq_true rfl) dX11_init_15 (S_aast (ak := 3) (ci := 3) C (fun _ _ _ _ _ _ => rfl) (fun _ => rfl) rfl (fun _ _ _ e1 e2 => al_same e1 e2) dX11_init_18 (S_dup C dX11_init_19 (S_iconst C dX11_init_20 (by decide +kernel) (S_new (ci := 5) C inG5 rfl rfl tyX5 tyX5_ok (by decide +kernel) (al_at 97 (by decide +kernel) rfl) (al_at 98 (by decide +kernel) rfl) (al_at 61 (by decide +kernel) rfl) dX11_init_21 (S_dup C dX11_init_24 (S_cI C ok_X5_init (al_at 99 (by decide +kernel) rfl) (Nat.le_of_ble_eq_true rfl) (Nat.le_of_ble_eq_true rfl) dX11_init_25 (S_aast (ak := 3) (ci := 5) C (fun _ _ _ _ _ _ => rfl) (fun _ => rfl) rfl (fun hS9 _ _ e1 e2 => al_cast (hS9.2.2.2.2.2.1 RX5 (by decide)) e1 e2) dX11_init_28 (S_dup C dX11_init_29 (S_iconst C dX11_init_30 (by decide +kernel) (S_new (ci := 6) C inG6 rfl rfl tyX6 tyX6_ok (by decide +kernel) (al_at 104 (by decide +kernel) rfl) (al_at 105 (by decide +kernel) rfl) (al_at 62 (by decide +kernel) rfl) dX11_init_31 (S_dup C dX11_init_34 (S_cI C ok_X6_init (al_at 106 (by decide +kernel) rfl) (Nat.le_of_ble_eq_true rfl) (Nat.le_of_ble_eq_true rfl) dX11_init_35 (S_aast (ak := 3) (ci := 6) C (fun _ _ _ _ _ _ => rfl) (fun _ => rfl) rfl (fun hS9 _ _ e1 e2 => al_cast (hS9.2.2.2.2.2.1 RX6 (by decide)) e1 e2) dX11_init_38 (S_dup C dX11_init_39 (S_iconst C dX11_init_40 (by decide +kernel) (S_new (ci := 0) C inG0 rfl rfl tyX0 tyX0_ok (by decide +kernel) (al_at 111 (by decide +kernel) rfl) (al_at 112 (by decide +kernel) rfl) (al_at 63 (by decide +kernel) rfl) dX11_init_41 (S_dup C dX11_init_44 (S_cI C ok_X0_init (al_at 113 (by decide +kernel) rfl) (Nat.le_of_ble_eq_true rfl) (Nat.le_of_ble_eq_true rfl) dX11_init_45 (S_aast (ak := 3) (ci := 0) C (fun _ _ _ _ _ _ => rfl) (fun _ => rfl) rfl (fun hS9 _ _ e1 e2 => al_cast (hS9.2.2.2.2.2.1 RX0 (by decide)) e1 e2) dX11_init_48 (S_dup C dX11_init_49 (S_iconst C dX11_init_50 (by decide +kernel) (S_new (ci := 4) C inG4 rfl rfl tyX4 tyX4_ok (by decide +kernel) (al_at 118 (by decide +kernel) rfl) (al_at 119 (by decide +kernel) rfl) (al_at 64 (by decide +kernel) rfl) dX11_init_51 (S_dup C dX11_init_54 (S_cI C ok_X4_init (al_at 120 (by decide +kernel) rfl) (Nat.le_of_ble_eq_true rfl) (Nat.le_of_ble_eq_true rfl) dX11_init_55 (S_aast (ak := 3) (ci := 4) C (fun _ _ _ _ _ _ => rfl) (fun _ => rfl) rfl (fun hS9 _ _ e1 e2 => al_cast (hS9.2.2.2.2.2.1 RX4 (by decide)) e1 e2) dX11_init_58 (S_dup C dX11_init_59 (S_iconst C dX11_init_60 (by decide +kernel) (S_new (ci := 1) C inG1 rfl rfl tyX1 tyX1_ok (by decide +kernel) (al_at 125 (by decide +kernel) rfl) (al_at 126 (by decide +kernel) rfl) (al_at 65 (by decide +kernel) rfl) dX11_init_61 (S_dup C dX11_init_64 (S_cI C ok_X1_init (al_at 127 (by decide +kernel) rfl) (Nat.le_of_ble_eq_true rfl) (Nat.le_of_ble_eq_true rfl) dX11_init_65 (S_aast (ak := 3) (ci := 1) C (fun _ _ _ _ _ _ => rfl) (fun _ => rfl) rfl (fun hS9 _ _ e1 e2 => al_cast (hS9.2.2.2.2.2.1 RX1 (by decide)) e1 e2) dX11_init_68 (S_astore_n C dX11_init_69 rfl (Nat.le_of_ble_eq_true rfl) (S_aload_n C dX11_init_70 rfl (S_new (ci := 9) C inG9 rfl rfl tyX9 tyX9_ok (by decide +kernel) (al_at 132 (by decide +kernel) rfl) (al_at 133 (by decide +kernel) rfl) (al_at 66 (by decide +kernel) rfl) dX11_init_71 (S_dup C dX11_init_74 (S_aload_n C dX11_init_75 rfl (S_cI C ok_X9_init (al_at 134 (by decide +kernel) rfl) (Nat.le_of_ble_eq_true rfl) (Nat.le_of_ble_eq_true rfl) dX11_init_76 (S_putR (ci := 11) (j := 0) C inG11 rfl (Nat.le_of_ble_eq_true rfl) tyX11 tyX11_ok nmX11 rfl rfl (tyX11_ok 0 (Nat.le_of_ble_eq_true rfl)) (Or.inl ⟨_, rfl⟩) hm rfl (al_at 289 (by decide +kernel) rfl) dX11_init_79 (S_aload_n C dX11_init_82 rfl (S_new (ci := 9) C inG9 rfl rfl tyX9 tyX9_ok (by decide +kernel) (al_at 132 (by decide +kernel) rfl) (al_at 133 (by decide +kernel) rfl) (al_at 66 (by decide +kernel) rfl) dX11_init_83 (S_dup C dX11_init_86 (S_aload_n C dX11_init_87 rfl (S_cI C ok_X9_init (al_at 134 (by decide +kernel) rfl) (Nat.le_of_ble_eq_true rfl) (Nat.le_of_ble_eq_true rfl) dX11_init_88 (S_putR (ci := 11) (j := 1) C inG11 rfl (Nat.le_of_ble_eq_true rfl) tyX11 tyX11_ok nmX11 rfl rfl (tyX11_ok 1 (Nat.le_of_ble_eq_true rfl)) (Or.inl ⟨_, rfl⟩) hm rfl (al_at 290 (by decide +kernel) rfl) dX11_init_91 (S_aload_n C dX11_init_94 rfl (S_new (ci := 8) C inG8 rfl rfl tyX8 tyX8_ok (by decide +kernel) (al_at 200 (by decide +kernel) rfl) (al_at 201 (by decide +kernel) rfl) (al_at 68 (by decide +kernel) rfl) dX11_init_95 (S_dup C dX11_init_98 (S_aload_n C dX11_init_99 rfl (S_getR (ci := 11) (j := 0) C inG11 rfl (Nat.le_of_ble_eq_true rfl) rfl (al_at 289 (by decide +kernel) rfl) dX11_init_100 (S_cI C ok_X8_init (al_at 202 (by decide +kernel) rfl) (Nat.le_of_ble_eq_true rfl) (Nat.le_of_ble_eq_true rfl) dX11_init_103 (S_putR (ci := 11) (j := 3) C inG11 rfl (Nat.le_of_ble_eq_true rfl) tyX11 tyX11_ok nmX11 rfl rfl (tyX11_ok 3 (Nat.le_of_ble_eq_true rfl)) (Or.inl ⟨_, rfl⟩) hm rfl (al_at 292 (by decide +kernel) rfl) dX11_init_106 (S_aload_n C dX11_init_109 rfl (S_new (ci := 10) C inG10 rfl rfl tyX10 tyX10_ok (by decide +kernel) (al_at 237 (by decide +kernel) rfl) (al_at 238 (by decide +kernel) rfl) (al_at 70 (by decide +kernel) rfl) dX11_init_110 (S_dup C dX11_init_113 (S_aload_n C dX11_init_114 rfl (S_getR (ci := 11) (j := 0) C inG11 rfl (Nat.le_of_ble_eq_true rfl) rfl (al_at 289 (by decide +kernel) rfl) dX11_init_115 (S_new (ci := 9) C inG9 rfl rfl tyX9 tyX9_ok (by decide +kernel) (al_at 132 (by decide +kernel) rfl) (al_at 133 (by decide +kernel) rfl) (al_at 66 (by decide +kernel) rfl) dX11_init_118 (S_dup C dX11_init_121 (S_aload_n C dX11_init_122 rfl (S_cI C ok_X9_init (al_at 134 (by decide +kernel) rfl) (Nat.le_of_ble_eq_true rfl) (Nat.le_of_ble_eq_true rfl) dX11_init_123 (S_cI C ok_X10_init (al_at 239 (by decide +kernel) rfl) (Nat.le_of_ble_eq_true rfl) (Nat.le_of_ble_eq_true rfl) dX11_init_126 (S_putR (ci := 11) (j := 4) C inG11 rfl (Nat.le_of_ble_eq_true rfl) tyX11 tyX11_ok nmX11 rfl rfl (tyX11_ok 4 (Nat.le_of_ble_eq_true rfl)) (Or.inl ⟨_, rfl⟩) hm rfl (al_at 293 (by decide +kernel) rfl) dX11_init_129 (S_aload_n C dX11_init_132 rfl (S_iconst C dX11_init_133 (by decide +kernel) (S_anewa (ak := 5) C (fun _ _ _ _ _ _ => rfl) (fun _ => rfl) (al_at 269 (by decide +kernel) rfl) (by decide) dX11_init_134 (S_putR (ci := 11) (j := 5) C inG11 rfl (Nat.le_of_ble_eq_true rfl) tyX11 tyX11_ok nmX11 rfl rfl (tyX11_ok 5 (Nat.le_of_ble_eq_true rfl)) (Or.inr ⟨_, rfl⟩) hm rfl (al_at 294 (by decide +kernel) rfl) dX11_init_137 (S_iconst C dX11_init_140 (by decide +kernel) (S_istore_n C dX11_init_141 rfl (Nat.le_of_ble_eq_true rfl) (fun _ _ _ _ _ _ h9 => h9))))))))))))))))))))))))))))))))))))))))))))))))))))))))))))))))))))))))))))))
    (S_iload_n C dX11_init_142 rfl (S_iconst C dX11_init_143 (by decide +kernel) (S_icmpge (tgt := 166) C dX11_init_144 (by decide) (S_aload_n C dX11_init_147 rfl (S_getR (ci := 11) (j := 5) C inG11 rfl (Nat.le_of_ble_eq_true rfl) rfl (al_at 294 (by decide +kernel) rfl) dX11_init_148 (S_iload_n C dX11_init_151 rfl (S_new (ci := 7) C inG7 rfl rfl tyX7 tyX7_ok (by decide +kernel) (al_at 269 (by decide +kernel) rfl) (al_at 271 (by decide +kernel) rfl) (al_at 71 (by decide +kernel) rfl) dX11_init_152 (S_dup C dX11_init_155 (S_cI C ok_X7_init (al_at 272 (by decide +kernel) rfl) (Nat.le_of_ble_eq_true rfl) (Nat.le_of_ble_eq_true rfl) dX11_init_156 (S_aast (ak := 5) (ci := 7) C (fun _ _ _ _ _ _ => rfl) (fun _ => rfl) rfl (fun _ _ _ e1 e2 => al_same e1 e2) dX11_init_159 (S_iinc C dX11_init_160 (by decide +kernel) (Nat.le_of_ble_eq_true rfl) (S_goto (tgt := 142) C dX11_init_163 (by decide)))))))))))))
    (S_aload_n C dX11_init_166 rfl (S_bipush C dX11_init_167 (by decide +kernel) (S_newa0 C (al_at 171 (by decide +kernel) rfl) dX11_init_169 (S_putR (ci := 11) (j := 6) C inG11 rfl (Nat.le_of_ble_eq_true rfl) tyX11 tyX11_ok nmX11 rfl rfl (tyX11_ok 6 (Nat.le_of_ble_eq_true rfl)) (Or.inr ⟨_, rfl⟩) hm rfl (al_at 295 (by decide +kernel) rfl) dX11_init_171 (S_aload_n C dX11_init_174 rfl (S_bipush C dX11_init_175 (by decide +kernel) (S_newa0 C (al_at 171 (by decide +kernel) rfl) dX11_init_177 (S_putR (ci := 11) (j := 7) C inG11 rfl (Nat.le_of_ble_eq_true rfl) tyX11 tyX11_ok nmX11 rfl rfl (tyX11_ok 7 (Nat.le_of_ble_eq_true rfl)) (Or.inr ⟨_, rfl⟩) hm rfl (al_at 296 (by decide +kernel) rfl) dX11_init_179 (S_aload_n C dX11_init_182 rfl (S_bipush C dX11_init_183 (by decide +kernel) (S_newa0 C (al_at 171 (by decide +kernel) rfl) dX11_init_185 (S_putR (ci := 11) (j := 8) C inG11 rfl (Nat.le_of_ble_eq_true rfl) tyX11 tyX11_ok nmX11 rfl rfl (tyX11_ok 8 (Nat.le_of_ble_eq_true rfl)) (Or.inr ⟨_, rfl⟩) hm rfl (al_at 297 (by decide +kernel) rfl) dX11_init_187 (S_cret C hQ hr dX11_init_190))))))))))))))
theorem dX11_isHouse_0 : decode cX11_isHouse 0 = .ok (.iload_n 1, 1) := by decide +kernel
theorem dX11_isHouse_1 : decode cX11_isHouse 1 = .ok (.ifCond .lt 18, 3) := by decide +kernel
theorem dX11_isHouse_4 : decode cX11_isHouse 4 = .ok (.iload_n 1, 1) := by decide +kernel
theorem dX11_isHouse_5 : decode cX11_isHouse 5 = .ok (.aload_n 0, 1) := by decide +kernel
theorem dX11_isHouse_6 : decode cX11_isHouse 6 = .ok (.getfield 30, 3) := by decide +kernel
theorem dX11_isHouse_9 : decode cX11_isHouse 9 = .ok (.getfield 102, 3) := by decide +kernel
theorem dX11_isHouse_12 : decode cX11_isHouse 12 = .ok (.if_icmp .ge 7, 3) := by decide +kernel
theorem dX11_isHouse_15 : decode cX11_isHouse 15 = .ok (.iconst 1, 1) := by decide +kernel
theorem dX11_isHouse_16 : decode cX11_isHouse 16 = .ok (.goto 4, 3) := by decide +kernel
theorem dX11_isHouse_19 : decode cX11_isHouse 19 = .ok (.iconst 0, 1) := by decide +kernel
theorem dX11_isHouse_20 : decode cX11_isHouse 20 = .ok (.ireturn, 1) := by decide +kernel
def k_X11_isHouse_0 (F : FT) (Q : QT) : KT := o_iload 1 (o_iflt (F 19) (o_iload 1 (o_aload 0 (o_getR 11 0 (o_getI 9 3 (o_icge (F 19) (o_ic (nI 1) (F 20))))))))
def k_X11_isHouse_19 (F : FT) (Q : QT) : KT := o_ic (nI 0) (F 20)
def k_X11_isHouse_20 (F : FT) (Q : QT) : KT := o_zret Q
set_option maxRecDepth 20000 in
theorem r_X11_isHouse {a0 : Nat} {a1 : Int32} {n : Nat} {R : RR} {I : II} {J : JJ} {Q : QT} (hn : n + 0 ≤ 90) (h : ∀ F : FT, al_Wk F → al_Ok F (k_X11_isHouse_0 F Q) 0 → al_Ok F (k_X11_isHouse_19 F Q) 19 → al_Ok F (k_X11_isHouse_20 F Q) 20 → F 0 [some (.ref a0), some (.int a1)] [] n R I J) : CT m_X11_isHouse 0 [.ref a0, .int a1] n R I J Q :=
  CT.of (by decide) hn (fun _ => rfl) (fun _ => Nat.le_of_ble_eq_true rfl) (fun F p l e s m args below meth c Rm t Q0 C hQ hr hm => h F (fun _ _ _ _ _ _ _ _ => S_wk C)
    (S_iload_n C dX11_isHouse_0 rfl (S_iflt (tgt := 19) C dX11_isHouse_1 (by decide) (S_iload_n C dX11_isHouse_4 rfl (S_aload_n C dX11_isHouse_5 rfl (S_getR (ci := 11) (j := 0) C inG11 rfl (Nat.le_of_ble_eq_true rfl) rfl (al_at 289 (by decide +kernel) rfl) dX11_isHouse_6 (S_getI (ci := 9) (j := 3) C inG9 rfl (Nat.le_of_ble_eq_true rfl) rfl (al_at 181 (by decide +kernel) rfl) dX11_isHouse_9 (S_icmpge (tgt := 19) C dX11_isHouse_12 (by decide) (S_iconst C dX11_isHouse_15 (by decide +kernel) (S_goto (tgt := 20) C dX11_isHouse_16 (by decide))))))))))
    (S_iconst C dX11_isHouse_19 (by decide +kernel) (fun _ _ _ _ _ _ h9 => h9))
    (S_zret C hQ hr dX11_isHouse_20))
theorem dX11_isKind_0 : decode cX11_isKind 0 = .ok (.iload_n 0, 1) := by decide +kernel
theorem dX11_isKind_1 : decode cX11_isKind 1 = .ok (.ifCond .lt 13, 3) := by decide +kernel
theorem dX11_isKind_4 : decode cX11_isKind 4 = .ok (.iload_n 0, 1) := by decide +kernel
theorem dX11_isKind_5 : decode cX11_isKind 5 = .ok (.bipush 6, 2) := by decide +kernel
theorem dX11_isKind_7 : decode cX11_isKind 7 = .ok (.if_icmp .ge 7, 3) := by decide +kernel
theorem dX11_isKind_10 : decode cX11_isKind 10 = .ok (.iconst 1, 1) := by decide +kernel
theorem dX11_isKind_11 : decode cX11_isKind 11 = .ok (.goto 4, 3) := by decide +kernel
theorem dX11_isKind_14 : decode cX11_isKind 14 = .ok (.iconst 0, 1) := by decide +kernel
theorem dX11_isKind_15 : decode cX11_isKind 15 = .ok (.ireturn, 1) := by decide +kernel
def k_X11_isKind_0 (F : FT) (Q : QT) : KT := o_iload 0 (o_iflt (F 14) (o_iload 0 (o_ic (nI 6) (o_icge (F 14) (o_ic (nI 1) (F 15))))))
def k_X11_isKind_14 (F : FT) (Q : QT) : KT := o_ic (nI 0) (F 15)
def k_X11_isKind_15 (F : FT) (Q : QT) : KT := o_zret Q
set_option maxRecDepth 20000 in
theorem r_X11_isKind {a0 : Int32} {n : Nat} {R : RR} {I : II} {J : JJ} {Q : QT} (hn : n + 0 ≤ 90) (h : ∀ F : FT, al_Wk F → al_Ok F (k_X11_isKind_0 F Q) 0 → al_Ok F (k_X11_isKind_14 F Q) 14 → al_Ok F (k_X11_isKind_15 F Q) 15 → F 0 [some (.int a0)] [] n R I J) : CT m_X11_isKind 0 [.int a0] n R I J Q :=
  CT.of (by decide) hn (fun _ => rfl) (fun _ => Nat.le_of_ble_eq_true rfl) (fun F p l e s m args below meth c Rm t Q0 C hQ hr hm => h F (fun _ _ _ _ _ _ _ _ => S_wk C)
    (S_iload_n C dX11_isKind_0 rfl (S_iflt (tgt := 14) C dX11_isKind_1 (by decide) (S_iload_n C dX11_isKind_4 rfl (S_bipush C dX11_isKind_5 (by decide +kernel) (S_icmpge (tgt := 14) C dX11_isKind_7 (by decide) (S_iconst C dX11_isKind_10 (by decide +kernel) (S_goto (tgt := 15) C dX11_isKind_11 (by decide))))))))
    (S_iconst C dX11_isKind_14 (by decide +kernel) (fun _ _ _ _ _ _ h9 => h9))
    (S_zret C hQ hr dX11_isKind_15))
theorem dX11_isPoint_0 : decode cX11_isPoint 0 = .ok (.iload_n 0, 1) := by decide +kernel
theorem dX11_isPoint_1 : decode cX11_isPoint 1 = .ok (.ifCond .lt 13, 3) := by decide +kernel
theorem dX11_isPoint_4 : decode cX11_isPoint 4 = .ok (.iload_n 0, 1) := by decide +kernel
theorem dX11_isPoint_5 : decode cX11_isPoint 5 = .ok (.bipush 81, 2) := by decide +kernel
theorem dX11_isPoint_7 : decode cX11_isPoint 7 = .ok (.if_icmp .ge 7, 3) := by decide +kernel
theorem dX11_isPoint_10 : decode cX11_isPoint 10 = .ok (.iconst 1, 1) := by decide +kernel
theorem dX11_isPoint_11 : decode cX11_isPoint 11 = .ok (.goto 4, 3) := by decide +kernel
theorem dX11_isPoint_14 : decode cX11_isPoint 14 = .ok (.iconst 0, 1) := by decide +kernel
theorem dX11_isPoint_15 : decode cX11_isPoint 15 = .ok (.ireturn, 1) := by decide +kernel
def k_X11_isPoint_0 (F : FT) (Q : QT) : KT := o_iload 0 (o_iflt (F 14) (o_iload 0 (o_ic (nI 81) (o_icge (F 14) (o_ic (nI 1) (F 15))))))
def k_X11_isPoint_14 (F : FT) (Q : QT) : KT := o_ic (nI 0) (F 15)
def k_X11_isPoint_15 (F : FT) (Q : QT) : KT := o_zret Q
set_option maxRecDepth 20000 in
theorem r_X11_isPoint {a0 : Int32} {n : Nat} {R : RR} {I : II} {J : JJ} {Q : QT} (hn : n + 0 ≤ 90) (h : ∀ F : FT, al_Wk F → al_Ok F (k_X11_isPoint_0 F Q) 0 → al_Ok F (k_X11_isPoint_14 F Q) 14 → al_Ok F (k_X11_isPoint_15 F Q) 15 → F 0 [some (.int a0)] [] n R I J) : CT m_X11_isPoint 0 [.int a0] n R I J Q :=
  CT.of (by decide) hn (fun _ => rfl) (fun _ => Nat.le_of_ble_eq_true rfl) (fun F p l e s m args below meth c Rm t Q0 C hQ hr hm => h F (fun _ _ _ _ _ _ _ _ => S_wk C)
    (S_iload_n C dX11_isPoint_0 rfl (S_iflt (tgt := 14) C dX11_isPoint_1 (by decide) (S_iload_n C dX11_isPoint_4 rfl (S_bipush C dX11_isPoint_5 (by decide +kernel) (S_icmpge (tgt := 14) C dX11_isPoint_7 (by decide) (S_iconst C dX11_isPoint_10 (by decide +kernel) (S_goto (tgt := 15) C dX11_isPoint_11 (by decide))))))))
    (S_iconst C dX11_isPoint_14 (by decide +kernel) (fun _ _ _ _ _ _ h9 => h9))
    (S_zret C hQ hr dX11_isPoint_15))
theorem dX11_isRate_0 : decode cX11_isRate 0 = .ok (.iload_n 0, 1) := by decide +kernel
theorem dX11_isRate_1 : decode cX11_isRate 1 = .ok (.iconst 1, 1) := by decide +kernel
theorem dX11_isRate_2 : decode cX11_isRate 2 = .ok (.if_icmp .lt 13, 3) := by decide +kernel
theorem dX11_isRate_5 : decode cX11_isRate 5 = .ok (.iload_n 0, 1) := by decide +kernel
theorem dX11_isRate_6 : decode cX11_isRate 6 = .ok (.bipush 99, 2) := by decide +kernel
theorem dX11_isRate_8 : decode cX11_isRate 8 = .ok (.if_icmp .gt 7, 3) := by decide +kernel
theorem dX11_isRate_11 : decode cX11_isRate 11 = .ok (.iconst 1, 1) := by decide +kernel
theorem dX11_isRate_12 : decode cX11_isRate 12 = .ok (.goto 4, 3) := by decide +kernel
theorem dX11_isRate_15 : decode cX11_isRate 15 = .ok (.iconst 0, 1) := by decide +kernel
theorem dX11_isRate_16 : decode cX11_isRate 16 = .ok (.ireturn, 1) := by decide +kernel
def k_X11_isRate_0 (F : FT) (Q : QT) : KT := o_iload 0 (o_ic (nI 1) (o_iclt (F 15) (o_iload 0 (o_ic (nI 99) (o_icgt (F 15) (o_ic (nI 1) (F 16)))))))
def k_X11_isRate_15 (F : FT) (Q : QT) : KT := o_ic (nI 0) (F 16)
def k_X11_isRate_16 (F : FT) (Q : QT) : KT := o_zret Q
set_option maxRecDepth 20000 in
theorem r_X11_isRate {a0 : Int32} {n : Nat} {R : RR} {I : II} {J : JJ} {Q : QT} (hn : n + 0 ≤ 90) (h : ∀ F : FT, al_Wk F → al_Ok F (k_X11_isRate_0 F Q) 0 → al_Ok F (k_X11_isRate_15 F Q) 15 → al_Ok F (k_X11_isRate_16 F Q) 16 → F 0 [some (.int a0)] [] n R I J) : CT m_X11_isRate 0 [.int a0] n R I J Q :=
  CT.of (by decide) hn (fun _ => rfl) (fun _ => Nat.le_of_ble_eq_true rfl) (fun F p l e s m args below meth c Rm t Q0 C hQ hr hm => h F (fun _ _ _ _ _ _ _ _ => S_wk C)
    (S_iload_n C dX11_isRate_0 rfl (S_iconst C dX11_isRate_1 (by decide +kernel) (S_icmplt (tgt := 15) C dX11_isRate_2 (by decide) (S_iload_n C dX11_isRate_5 rfl (S_bipush C dX11_isRate_6 (by decide +kernel) (S_icmpgt (tgt := 15) C dX11_isRate_8 (by decide) (S_iconst C dX11_isRate_11 (by decide +kernel) (S_goto (tgt := 16) C dX11_isRate_12 (by decide)))))))))
    (S_iconst C dX11_isRate_15 (by decide +kernel) (fun _ _ _ _ _ _ h9 => h9))
    (S_zret C hQ hr dX11_isRate_16))
theorem dX11_isSheet_0 : decode cX11_isSheet 0 = .ok (.iload_n 0, 1) := by decide +kernel
theorem dX11_isSheet_1 : decode cX11_isSheet 1 = .ok (.ifCond .lt 12, 3) := by decide +kernel
theorem dX11_isSheet_4 : decode cX11_isSheet 4 = .ok (.iload_n 0, 1) := by decide +kernel
theorem dX11_isSheet_5 : decode cX11_isSheet 5 = .ok (.iconst 4, 1) := by decide +kernel
theorem dX11_isSheet_6 : decode cX11_isSheet 6 = .ok (.if_icmp .ge 7, 3) := by decide +kernel
theorem dX11_isSheet_9 : decode cX11_isSheet 9 = .ok (.iconst 1, 1) := by decide +kernel
theorem dX11_isSheet_10 : decode cX11_isSheet 10 = .ok (.goto 4, 3) := by decide +kernel
theorem dX11_isSheet_13 : decode cX11_isSheet 13 = .ok (.iconst 0, 1) := by decide +kernel
theorem dX11_isSheet_14 : decode cX11_isSheet 14 = .ok (.ireturn, 1) := by decide +kernel
def k_X11_isSheet_0 (F : FT) (Q : QT) : KT := o_iload 0 (o_iflt (F 13) (o_iload 0 (o_ic (nI 4) (o_icge (F 13) (o_ic (nI 1) (F 14))))))
def k_X11_isSheet_13 (F : FT) (Q : QT) : KT := o_ic (nI 0) (F 14)
def k_X11_isSheet_14 (F : FT) (Q : QT) : KT := o_zret Q
set_option maxRecDepth 20000 in
theorem r_X11_isSheet {a0 : Int32} {n : Nat} {R : RR} {I : II} {J : JJ} {Q : QT} (hn : n + 0 ≤ 90) (h : ∀ F : FT, al_Wk F → al_Ok F (k_X11_isSheet_0 F Q) 0 → al_Ok F (k_X11_isSheet_13 F Q) 13 → al_Ok F (k_X11_isSheet_14 F Q) 14 → F 0 [some (.int a0)] [] n R I J) : CT m_X11_isSheet 0 [.int a0] n R I J Q :=
  CT.of (by decide) hn (fun _ => rfl) (fun _ => Nat.le_of_ble_eq_true rfl) (fun F p l e s m args below meth c Rm t Q0 C hQ hr hm => h F (fun _ _ _ _ _ _ _ _ => S_wk C)
    (S_iload_n C dX11_isSheet_0 rfl (S_iflt (tgt := 13) C dX11_isSheet_1 (by decide) (S_iload_n C dX11_isSheet_4 rfl (S_iconst C dX11_isSheet_5 (by decide +kernel) (S_icmpge (tgt := 13) C dX11_isSheet_6 (by decide) (S_iconst C dX11_isSheet_9 (by decide +kernel) (S_goto (tgt := 14) C dX11_isSheet_10 (by decide))))))))
    (S_iconst C dX11_isSheet_13 (by decide +kernel) (fun _ _ _ _ _ _ h9 => h9))
    (S_zret C hQ hr dX11_isSheet_14))
theorem dX11_isSquare_0 : decode cX11_isSquare 0 = .ok (.iload_n 0, 1) := by decide +kernel
theorem dX11_isSquare_1 : decode cX11_isSquare 1 = .ok (.ifCond .lt 13, 3) := by decide +kernel
theorem dX11_isSquare_4 : decode cX11_isSquare 4 = .ok (.iload_n 0, 1) := by decide +kernel
theorem dX11_isSquare_5 : decode cX11_isSquare 5 = .ok (.bipush 64, 2) := by decide +kernel
theorem dX11_isSquare_7 : decode cX11_isSquare 7 = .ok (.if_icmp .ge 7, 3) := by decide +kernel
theorem dX11_isSquare_10 : decode cX11_isSquare 10 = .ok (.iconst 1, 1) := by decide +kernel
theorem dX11_isSquare_11 : decode cX11_isSquare 11 = .ok (.goto 4, 3) := by decide +kernel
theorem dX11_isSquare_14 : decode cX11_isSquare 14 = .ok (.iconst 0, 1) := by decide +kernel
theorem dX11_isSquare_15 : decode cX11_isSquare 15 = .ok (.ireturn, 1) := by decide +kernel
def k_X11_isSquare_0 (F : FT) (Q : QT) : KT := o_iload 0 (o_iflt (F 14) (o_iload 0 (o_ic (nI 64) (o_icge (F 14) (o_ic (nI 1) (F 15))))))
def k_X11_isSquare_14 (F : FT) (Q : QT) : KT := o_ic (nI 0) (F 15)
def k_X11_isSquare_15 (F : FT) (Q : QT) : KT := o_zret Q
set_option maxRecDepth 20000 in
theorem r_X11_isSquare {a0 : Int32} {n : Nat} {R : RR} {I : II} {J : JJ} {Q : QT} (hn : n + 0 ≤ 90) (h : ∀ F : FT, al_Wk F → al_Ok F (k_X11_isSquare_0 F Q) 0 → al_Ok F (k_X11_isSquare_14 F Q) 14 → al_Ok F (k_X11_isSquare_15 F Q) 15 → F 0 [some (.int a0)] [] n R I J) : CT m_X11_isSquare 0 [.int a0] n R I J Q :=
  CT.of (by decide) hn (fun _ => rfl) (fun _ => Nat.le_of_ble_eq_true rfl) (fun F p l e s m args below meth c Rm t Q0 C hQ hr hm => h F (fun _ _ _ _ _ _ _ _ => S_wk C)
    (S_iload_n C dX11_isSquare_0 rfl (S_iflt (tgt := 14) C dX11_isSquare_1 (by decide) (S_iload_n C dX11_isSquare_4 rfl (S_bipush C dX11_isSquare_5 (by decide +kernel) (S_icmpge (tgt := 14) C dX11_isSquare_7 (by decide) (S_iconst C dX11_isSquare_10 (by decide +kernel) (S_goto (tgt := 15) C dX11_isSquare_11 (by decide))))))))
    (S_iconst C dX11_isSquare_14 (by decide +kernel) (fun _ _ _ _ _ _ h9 => h9))
    (S_zret C hQ hr dX11_isSquare_15))
theorem dX11_isWealth_0 : decode cX11_isWealth 0 = .ok (.iload_n 0, 1) := by decide +kernel
theorem dX11_isWealth_1 : decode cX11_isWealth 1 = .ok (.ifCond .lt 14, 3) := by decide +kernel
theorem dX11_isWealth_4 : decode cX11_isWealth 4 = .ok (.iload_n 0, 1) := by decide +kernel
theorem dX11_isWealth_5 : decode cX11_isWealth 5 = .ok (.sipush 9999, 3) := by decide +kernel
theorem dX11_isWealth_8 : decode cX11_isWealth 8 = .ok (.if_icmp .gt 7, 3) := by decide +kernel
theorem dX11_isWealth_11 : decode cX11_isWealth 11 = .ok (.iconst 1, 1) := by decide +kernel
theorem dX11_isWealth_12 : decode cX11_isWealth 12 = .ok (.goto 4, 3) := by decide +kernel
theorem dX11_isWealth_15 : decode cX11_isWealth 15 = .ok (.iconst 0, 1) := by decide +kernel
theorem dX11_isWealth_16 : decode cX11_isWealth 16 = .ok (.ireturn, 1) := by decide +kernel
def k_X11_isWealth_0 (F : FT) (Q : QT) : KT := o_iload 0 (o_iflt (F 15) (o_iload 0 (o_ic (nI 9999) (o_icgt (F 15) (o_ic (nI 1) (F 16))))))
def k_X11_isWealth_15 (F : FT) (Q : QT) : KT := o_ic (nI 0) (F 16)
def k_X11_isWealth_16 (F : FT) (Q : QT) : KT := o_zret Q
set_option maxRecDepth 20000 in
theorem r_X11_isWealth {a0 : Int32} {n : Nat} {R : RR} {I : II} {J : JJ} {Q : QT} (hn : n + 0 ≤ 90) (h : ∀ F : FT, al_Wk F → al_Ok F (k_X11_isWealth_0 F Q) 0 → al_Ok F (k_X11_isWealth_15 F Q) 15 → al_Ok F (k_X11_isWealth_16 F Q) 16 → F 0 [some (.int a0)] [] n R I J) : CT m_X11_isWealth 0 [.int a0] n R I J Q :=
  CT.of (by decide) hn (fun _ => rfl) (fun _ => Nat.le_of_ble_eq_true rfl) (fun F p l e s m args below meth c Rm t Q0 C hQ hr hm => h F (fun _ _ _ _ _ _ _ _ => S_wk C)
    (S_iload_n C dX11_isWealth_0 rfl (S_iflt (tgt := 15) C dX11_isWealth_1 (by decide) (S_iload_n C dX11_isWealth_4 rfl (S_sipush C dX11_isWealth_5 (by decide +kernel) (S_icmpgt (tgt := 15) C dX11_isWealth_8 (by decide) (S_iconst C dX11_isWealth_11 (by decide +kernel) (S_goto (tgt := 16) C dX11_isWealth_12 (by decide))))))))
    (S_iconst C dX11_isWealth_15 (by decide +kernel) (fun _ _ _ _ _ _ h9 => h9))
    (S_zret C hQ hr dX11_isWealth_16))
theorem dX11_ith_0 : decode cX11_ith 0 = .ok (.aload_n 0, 1) := by decide +kernel
theorem dX11_ith_1 : decode cX11_ith 1 = .ok (.iload_n 1, 1) := by decide +kernel
theorem dX11_ith_2 : decode cX11_ith 2 = .ok (.invokevirtual 111, 3) := by decide +kernel
theorem dX11_ith_5 : decode cX11_ith 5 = .ok (.ifCond .eq 7, 3) := by decide +kernel
theorem dX11_ith_8 : decode cX11_ith 8 = .ok (.iload_n 2, 1) := by decide +kernel
theorem dX11_ith_9 : decode cX11_ith 9 = .ok (.ifCond .ge 10, 3) := by decide +kernel
theorem dX11_ith_12 : decode cX11_ith 12 = .ok (.aload_n 0, 1) := by decide +kernel
theorem dX11_ith_13 : decode cX11_ith 13 = .ok (.ldc 81, 2) := by decide +kernel
theorem dX11_ith_15 : decode cX11_ith 15 = .ok (.invokevirtual 82, 3) := by decide +kernel
theorem dX11_ith_18 : decode cX11_ith 18 = .ok (.ireturn, 1) := by decide +kernel
theorem dX11_ith_19 : decode cX11_ith 19 = .ok (.aload_n 0, 1) := by decide +kernel
theorem dX11_ith_20 : decode cX11_ith 20 = .ok (.getfield 30, 3) := by decide +kernel
theorem dX11_ith_23 : decode cX11_ith 23 = .ok (.iload_n 1, 1) := by decide +kernel
theorem dX11_ith_24 : decode cX11_ith 24 = .ok (.iconst (-1), 1) := by decide +kernel
theorem dX11_ith_25 : decode cX11_ith 25 = .ok (.invokevirtual 161, 3) := by decide +kernel
theorem dX11_ith_28 : decode cX11_ith 28 = .ok (.istore_n 3, 1) := by decide +kernel
theorem dX11_ith_29 : decode cX11_ith 29 = .ok (.iconst 0, 1) := by decide +kernel
theorem dX11_ith_30 : decode cX11_ith 30 = .ok (.istore 4, 2) := by decide +kernel
theorem dX11_ith_32 : decode cX11_ith 32 = .ok (.iload 4, 2) := by decide +kernel
theorem dX11_ith_34 : decode cX11_ith 34 = .ok (.iload_n 2, 1) := by decide +kernel
theorem dX11_ith_35 : decode cX11_ith 35 = .ok (.if_icmp .ge 32, 3) := by decide +kernel
theorem dX11_ith_38 : decode cX11_ith 38 = .ok (.iload 4, 2) := by decide +kernel
theorem dX11_ith_40 : decode cX11_ith 40 = .ok (.bipush 81, 2) := by decide +kernel
theorem dX11_ith_42 : decode cX11_ith 42 = .ok (.if_icmp .ge 25, 3) := by decide +kernel
theorem dX11_ith_45 : decode cX11_ith 45 = .ok (.iload_n 3, 1) := by decide +kernel
theorem dX11_ith_46 : decode cX11_ith 46 = .ok (.bipush 81, 2) := by decide +kernel
theorem dX11_ith_48 : decode cX11_ith 48 = .ok (.if_icmp .ge 19, 3) := by decide +kernel
theorem dX11_ith_51 : decode cX11_ith 51 = .ok (.aload_n 0, 1) := by decide +kernel
theorem dX11_ith_52 : decode cX11_ith 52 = .ok (.getfield 30, 3) := by decide +kernel
theorem dX11_ith_55 : decode cX11_ith 55 = .ok (.iload_n 1, 1) := by decide +kernel
theorem dX11_ith_56 : decode cX11_ith 56 = .ok (.iload_n 3, 1) := by decide +kernel
theorem dX11_ith_57 : decode cX11_ith 57 = .ok (.invokevirtual 161, 3) := by decide +kernel
theorem dX11_ith_60 : decode cX11_ith 60 = .ok (.istore_n 3, 1) := by decide +kernel
theorem dX11_ith_61 : decode cX11_ith 61 = .ok (.iinc 4 1, 3) := by decide +kernel
theorem dX11_ith_64 : decode cX11_ith 64 = .ok (.goto (-32), 3) := by decide +kernel
theorem dX11_ith_67 : decode cX11_ith 67 = .ok (.iload_n 3, 1) := by decide +kernel
theorem dX11_ith_68 : decode cX11_ith 68 = .ok (.bipush 81, 2) := by decide +kernel
theorem dX11_ith_70 : decode cX11_ith 70 = .ok (.if_icmp .ge 7, 3) := by decide +kernel
theorem dX11_ith_73 : decode cX11_ith 73 = .ok (.iload_n 3, 1) := by decide +kernel
theorem dX11_ith_74 : decode cX11_ith 74 = .ok (.goto 9, 3) := by decide +kernel
theorem dX11_ith_77 : decode cX11_ith 77 = .ok (.aload_n 0, 1) := by decide +kernel
theorem dX11_ith_78 : decode cX11_ith 78 = .ok (.ldc 164, 2) := by decide +kernel
theorem dX11_ith_80 : decode cX11_ith 80 = .ok (.invokevirtual 82, 3) := by decide +kernel
theorem dX11_ith_83 : decode cX11_ith 83 = .ok (.ireturn, 1) := by decide +kernel
def k_X11_ith_0 (F : FT) (Q : QT) : KT := o_aload 0 (o_iload 1 (o_cV 11 m_X11_isHouse 2 (o_ifeq (F 12) (o_iload 2 (o_ifge (F 19) (F 12))))))
def k_X11_ith_12 (F : FT) (Q : QT) : KT := o_aload 0 (o_ic (-1000000001) (o_cV 11 m_X11_finding 2 (o_iret Q)))
def k_X11_ith_19 (F : FT) (Q : QT) : KT := o_aload 0 (o_getR 11 0 (o_iload 1 (o_ic (-1) (o_cV 9 m_X9_cornerBehind 3 (o_istore 3 (o_ic (nI 0) (o_istore 4 (F 32))))))))
def k_X11_ith_32 (F : FT) (Q : QT) : KT := o_iload 4 (o_iload 2 (o_icge (F 67) (o_iload 4 (o_ic (nI 81) (o_icge (F 67) (o_iload 3 (o_ic (nI 81) (o_icge (F 67) (o_aload 0 (o_getR 11 0 (o_iload 1 (o_iload 3 (o_cV 9 m_X9_cornerBehind 3 (o_istore 3 (o_iinc 4 (nI 1) (F 32))))))))))))))))
def k_X11_ith_67 (F : FT) (Q : QT) : KT := o_iload 3 (o_ic (nI 81) (o_icge (F 77) (o_iload 3 (F 83))))
def k_X11_ith_77 (F : FT) (Q : QT) : KT := o_aload 0 (o_ic (-1000000004) (o_cV 11 m_X11_finding 2 (F 83)))
def k_X11_ith_83 (F : FT) (Q : QT) : KT := o_iret Q
set_option maxRecDepth 20000 in
theorem r_X11_ith {a0 : Nat} {a1 : Int32} {a2 : Int32} {n : Nat} {R : RR} {I : II} {J : JJ} {Q : QT} (hn : n + 0 ≤ 90) (h : ∀ F : FT, al_Wk F → al_Ok F (k_X11_ith_0 F Q) 0 → al_Ok F (k_X11_ith_12 F Q) 12 → al_Ok F (k_X11_ith_19 F Q) 19 → al_Ok F (k_X11_ith_32 F Q) 32 → al_Ok F (k_X11_ith_67 F Q) 67 → al_Ok F (k_X11_ith_77 F Q) 77 → al_Ok F (k_X11_ith_83 F Q) 83 → F 0 [some (.ref a0), some (.int a1), some (.int a2), none, none] [] n R I J) : CT m_X11_ith 0 [.ref a0, .int a1, .int a2] n R I J Q :=
  CT.of (by decide) hn (fun _ => rfl) (fun _ => Nat.le_of_ble_eq_true rfl) (fun F p l e s m args below meth c Rm t Q0 C hQ hr hm => h F (fun _ _ _ _ _ _ _ _ => S_wk C)
    (S_aload_n C dX11_ith_0 rfl (S_iload_n C dX11_ith_1 rfl (S_cV (ci := 11) C ok_X11_isHouse rfl (al_at 369 (by decide +kernel) rfl) (Nat.le_of_ble_eq_true rfl) (Nat.le_of_ble_eq_true rfl) dX11_ith_2 (S_ifeq (tgt := 12) C dX11_ith_5 (by decide) (S_iload_n C dX11_ith_8 rfl (S_ifge (tgt := 19) C dX11_ith_9 (by decide) (fun _ _ _ _ _ _ h9 => h9)))))))
    (S_aload_n C dX11_ith_12 rfl (S_ldc C dX11_ith_13 (al_at 328 (by decide +kernel) rfl) (S_cV (ci := 11) C ok_X11_finding rfl (al_at 329 (by decide +kernel) rfl) (Nat.le_of_ble_eq_true rfl) (Nat.le_of_ble_eq_true rfl) dX11_ith_15 (S_iret C hQ hr dX11_ith_18))))
    (S_aload_n C dX11_ith_19 rfl (S_getR (ci := 11) (j := 0) C inG11 rfl (Nat.le_of_ble_eq_true rfl) rfl (al_at 289 (by decide +kernel) rfl) dX11_ith_20 (S_iload_n C dX11_ith_23 rfl (S_iconst C dX11_ith_24 (by decide +kernel) (S_cV (ci := 9) C ok_X9_cornerBehind rfl (al_at 513 (by decide +kernel) rfl) (Nat.le_of_ble_eq_true rfl) (Nat.le_of_ble_eq_true rfl) dX11_ith_25 (S_istore_n C dX11_ith_28 rfl (Nat.le_of_ble_eq_true rfl) (S_iconst C dX11_ith_29 (by decide +kernel) (S_istore C dX11_ith_30 (Nat.le_of_ble_eq_true rfl) (fun _ _ _ _ _ _ h9 => h9)))))))))
    (S_iload C dX11_ith_32 (S_iload_n C dX11_ith_34 rfl (S_icmpge (tgt := 67) C dX11_ith_35 (by decide) (S_iload C dX11_ith_38 (S_bipush C dX11_ith_40 (by decide +kernel) (S_icmpge (tgt := 67) C dX11_ith_42 (by decide) (S_iload_n C dX11_ith_45 rfl (S_bipush C dX11_ith_46 (by decide +kernel) (S_icmpge (tgt := 67) C dX11_ith_48 (by decide) (S_aload_n C dX11_ith_51 rfl (S_getR (ci := 11) (j := 0) C inG11 rfl (Nat.le_of_ble_eq_true rfl) rfl (al_at 289 (by decide +kernel) rfl) dX11_ith_52 (S_iload_n C dX11_ith_55 rfl (S_iload_n C dX11_ith_56 rfl (S_cV (ci := 9) C ok_X9_cornerBehind rfl (al_at 513 (by decide +kernel) rfl) (Nat.le_of_ble_eq_true rfl) (Nat.le_of_ble_eq_true rfl) dX11_ith_57 (S_istore_n C dX11_ith_60 rfl (Nat.le_of_ble_eq_true rfl) (S_iinc C dX11_ith_61 (by decide +kernel) (Nat.le_of_ble_eq_true rfl) (S_goto (tgt := 32) C dX11_ith_64 (by decide))))))))))))))))))
    (S_iload_n C dX11_ith_67 rfl (S_bipush C dX11_ith_68 (by decide +kernel) (S_icmpge (tgt := 77) C dX11_ith_70 (by decide) (S_iload_n C dX11_ith_73 rfl (S_goto (tgt := 83) C dX11_ith_74 (by decide))))))
    (S_aload_n C dX11_ith_77 rfl (S_ldc C dX11_ith_78 (al_at 517 (by decide +kernel) rfl) (S_cV (ci := 11) C ok_X11_finding rfl (al_at 329 (by decide +kernel) rfl) (Nat.le_of_ble_eq_true rfl) (Nat.le_of_ble_eq_true rfl) dX11_ith_80 (fun _ _ _ _ _ _ h9 => h9))))
    (S_iret C hQ hr dX11_ith_83))
theorem dX11_lays_0 : decode cX11_lays 0 = .ok (.iload_n 1, 1) := by decide +kernel
theorem dX11_lays_1 : decode cX11_lays 1 = .ok (.invokestatic 220, 3) := by decide +kernel
theorem dX11_lays_4 : decode cX11_lays 4 = .ok (.ifCond .ne 10, 3) := by decide +kernel
theorem dX11_lays_7 : decode cX11_lays 7 = .ok (.aload_n 0, 1) := by decide +kernel
theorem dX11_lays_8 : decode cX11_lays 8 = .ok (.ldc 81, 2) := by decide +kernel
theorem dX11_lays_10 : decode cX11_lays 10 = .ok (.invokevirtual 82, 3) := by decide +kernel
theorem dX11_lays_13 : decode cX11_lays 13 = .ok (.ireturn, 1) := by decide +kernel
theorem dX11_lays_14 : decode cX11_lays 14 = .ok (.aload_n 0, 1) := by decide +kernel
theorem dX11_lays_15 : decode cX11_lays 15 = .ok (.getfield 59, 3) := by decide +kernel
theorem dX11_lays_18 : decode cX11_lays 18 = .ok (.iload_n 1, 1) := by decide +kernel
theorem dX11_lays_19 : decode cX11_lays 19 = .ok (.aaload, 1) := by decide +kernel
theorem dX11_lays_20 : decode cX11_lays 20 = .ok (.astore_n 3, 1) := by decide +kernel
theorem dX11_lays_21 : decode cX11_lays 21 = .ok (.aload_n 3, 1) := by decide +kernel
theorem dX11_lays_22 : decode cX11_lays 22 = .ok (.invokevirtual 230, 3) := by decide +kernel
theorem dX11_lays_25 : decode cX11_lays 25 = .ok (.ifCond .eq 10, 3) := by decide +kernel
theorem dX11_lays_28 : decode cX11_lays 28 = .ok (.aload_n 0, 1) := by decide +kernel
theorem dX11_lays_29 : decode cX11_lays 29 = .ok (.ldc 234, 2) := by decide +kernel
theorem dX11_lays_31 : decode cX11_lays 31 = .ok (.invokevirtual 82, 3) := by decide +kernel
theorem dX11_lays_34 : decode cX11_lays 34 = .ok (.ireturn, 1) := by decide +kernel
theorem dX11_lays_35 : decode cX11_lays 35 = .ok (.iload_n 2, 1) := by decide +kernel
theorem dX11_lays_36 : decode cX11_lays 36 = .ok (.invokestatic 74, 3) := by decide +kernel
theorem dX11_lays_39 : decode cX11_lays 39 = .ok (.ifCond .ne 10, 3) := by decide +kernel
theorem dX11_lays_42 : decode cX11_lays 42 = .ok (.aload_n 0, 1) := by decide +kernel
theorem dX11_lays_43 : decode cX11_lays 43 = .ok (.ldc 81, 2) := by decide +kernel
theorem dX11_lays_45 : decode cX11_lays 45 = .ok (.invokevirtual 82, 3) := by decide +kernel
theorem dX11_lays_48 : decode cX11_lays 48 = .ok (.ireturn, 1) := by decide +kernel
theorem dX11_lays_49 : decode cX11_lays 49 = .ok (.iconst 0, 1) := by decide +kernel
theorem dX11_lays_50 : decode cX11_lays 50 = .ok (.istore 4, 2) := by decide +kernel
theorem dX11_lays_52 : decode cX11_lays 52 = .ok (.iconst 0, 1) := by decide +kernel
theorem dX11_lays_53 : decode cX11_lays 53 = .ok (.istore 5, 2) := by decide +kernel
theorem dX11_lays_55 : decode cX11_lays 55 = .ok (.iload 5, 2) := by decide +kernel
theorem dX11_lays_57 : decode cX11_lays 57 = .ok (.aload_n 3, 1) := by decide +kernel
theorem dX11_lays_58 : decode cX11_lays 58 = .ok (.getfield 227, 3) := by decide +kernel
theorem dX11_lays_61 : decode cX11_lays 61 = .ok (.if_icmp .ge 73, 3) := by decide +kernel
theorem dX11_lays_64 : decode cX11_lays 64 = .ok (.iload_n 2, 1) := by decide +kernel
theorem dX11_lays_65 : decode cX11_lays 65 = .ok (.iload 5, 2) := by decide +kernel
theorem dX11_lays_67 : decode cX11_lays 67 = .ok (.iadd, 1) := by decide +kernel
theorem dX11_lays_68 : decode cX11_lays 68 = .ok (.bipush 64, 2) := by decide +kernel
theorem dX11_lays_70 : decode cX11_lays 70 = .ok (.if_icmp .ge 64, 3) := by decide +kernel
theorem dX11_lays_73 : decode cX11_lays 73 = .ok (.aload_n 3, 1) := by decide +kernel
theorem dX11_lays_74 : decode cX11_lays 74 = .ok (.getfield 235, 3) := by decide +kernel
theorem dX11_lays_77 : decode cX11_lays 77 = .ok (.iload 5, 2) := by decide +kernel
theorem dX11_lays_79 : decode cX11_lays 79 = .ok (.laload, 1) := by decide +kernel
theorem dX11_lays_80 : decode cX11_lays 80 = .ok (.lstore 6, 2) := by decide +kernel
theorem dX11_lays_82 : decode cX11_lays 82 = .ok (.lload 6, 2) := by decide +kernel
theorem dX11_lays_84 : decode cX11_lays 84 = .ok (.lconst 0, 1) := by decide +kernel
theorem dX11_lays_85 : decode cX11_lays 85 = .ok (.lcmp, 1) := by decide +kernel
theorem dX11_lays_86 : decode cX11_lays 86 = .ok (.ifCond .lt 42, 3) := by decide +kernel
theorem dX11_lays_89 : decode cX11_lays 89 = .ok (.lload 6, 2) := by decide +kernel
theorem dX11_lays_91 : decode cX11_lays 91 = .ok (.ldc2_w 255, 3) := by decide +kernel
theorem dX11_lays_94 : decode cX11_lays 94 = .ok (.lcmp, 1) := by decide +kernel
theorem dX11_lays_95 : decode cX11_lays 95 = .ok (.ifCond .ge 33, 3) := by decide +kernel
theorem dX11_lays_98 : decode cX11_lays 98 = .ok (.aload_n 0, 1) := by decide +kernel
theorem dX11_lays_99 : decode cX11_lays 99 = .ok (.getfield 30, 3) := by decide +kernel
theorem dX11_lays_102 : decode cX11_lays 102 = .ok (.lload 6, 2) := by decide +kernel
theorem dX11_lays_104 : decode cX11_lays 104 = .ok (.l2i, 1) := by decide +kernel
theorem dX11_lays_105 : decode cX11_lays 105 = .ok (.invokevirtual 78, 3) := by decide +kernel
theorem dX11_lays_108 : decode cX11_lays 108 = .ok (.ifCond .eq 20, 3) := by decide +kernel
theorem dX11_lays_111 : decode cX11_lays 111 = .ok (.aload_n 0, 1) := by decide +kernel
theorem dX11_lays_112 : decode cX11_lays 112 = .ok (.getfield 30, 3) := by decide +kernel
theorem dX11_lays_115 : decode cX11_lays 115 = .ok (.iload_n 2, 1) := by decide +kernel
theorem dX11_lays_116 : decode cX11_lays 116 = .ok (.iload 5, 2) := by decide +kernel
theorem dX11_lays_118 : decode cX11_lays 118 = .ok (.iadd, 1) := by decide +kernel
theorem dX11_lays_119 : decode cX11_lays 119 = .ok (.lload 6, 2) := by decide +kernel
theorem dX11_lays_121 : decode cX11_lays 121 = .ok (.l2i, 1) := by decide +kernel
theorem dX11_lays_122 : decode cX11_lays 122 = .ok (.invokevirtual 89, 3) := by decide +kernel
theorem dX11_lays_125 : decode cX11_lays 125 = .ok (.iinc 4 1, 3) := by decide +kernel
theorem dX11_lays_128 : decode cX11_lays 128 = .ok (.iinc 5 1, 3) := by decide +kernel
theorem dX11_lays_131 : decode cX11_lays 131 = .ok (.goto (-76), 3) := by decide +kernel
theorem dX11_lays_134 : decode cX11_lays 134 = .ok (.aload_n 0, 1) := by decide +kernel
theorem dX11_lays_135 : decode cX11_lays 135 = .ok (.getfield 44, 3) := by decide +kernel
theorem dX11_lays_138 : decode cX11_lays 138 = .ok (.invokevirtual 93, 3) := by decide +kernel
theorem dX11_lays_141 : decode cX11_lays 141 = .ok (.iload 4, 2) := by decide +kernel
theorem dX11_lays_143 : decode cX11_lays 143 = .ok (.ireturn, 1) := by decide +kernel
def k_X11_lays_0 (F : FT) (Q : QT) : KT := o_iload 1 (o_cS m_X11_isSheet 1 (o_ifne (F 14) (o_aload 0 (o_ic (-1000000001) (o_cV 11 m_X11_finding 2 (o_iret Q))))))
def k_X11_lays_14 (F : FT) (Q : QT) : KT := o_aload 0 (o_getR 11 5 (o_iload 1 (o_aald 5 (o_astore 3 (o_aload 3 (o_cV 7 m_X7_isMissing 1 (o_ifeq (F 35) (o_aload 0 (o_ic (-1000000006) (o_cV 11 m_X11_finding 2 (o_iret Q)))))))))))
def k_X11_lays_35 (F : FT) (Q : QT) : KT := o_iload 2 (o_cS m_X11_isSquare 1 (o_ifne (F 49) (o_aload 0 (o_ic (-1000000001) (o_cV 11 m_X11_finding 2 (o_iret Q))))))
def k_X11_lays_49 (F : FT) (Q : QT) : KT := o_ic (nI 0) (o_istore 4 (o_ic (nI 0) (o_istore 5 (F 55))))
def k_X11_lays_55 (F : FT) (Q : QT) : KT := o_iload 5 (o_aload 3 (o_getI 7 1 (o_icge (F 134) (o_iload 2 (o_iload 5 (o_iadd (o_ic (nI 64) (o_icge (F 134) (o_aload 3 (o_getR 7 2 (o_iload 5 (o_lald (o_lstore 6 (o_lload 6 (o_lc (lN 0) (o_lcmp (o_iflt (F 128) (o_lload 6 (o_lc (16) (o_lcmp (o_ifge (F 128) (o_aload 0 (o_getR 11 0 (o_lload 6 (o_l2i (o_cV 9 m_X9_mayBe 2 (o_ifeq (F 128) (o_aload 0 (o_getR 11 0 (o_iload 2 (o_iload 5 (o_iadd (o_lload 6 (o_l2i (o_cV 9 m_X9_lay 3 (o_iinc 4 (nI 1) (F 128)))))))))))))))))))))))))))))))))))))
def k_X11_lays_128 (F : FT) (Q : QT) : KT := o_iinc 5 (nI 1) (F 55)
def k_X11_lays_134 (F : FT) (Q : QT) : KT := o_aload 0 (o_getR 11 3 (o_cV 8 m_X8_forget 1 (o_iload 4 (o_iret Q))))
set_option maxRecDepth 20000 in
theorem r_X11_lays {a0 : Nat} {a1 : Int32} {a2 : Int32} {n : Nat} {R : RR} {I : II} {J : JJ} {Q : QT} (hn : n + 0 ≤ 90) (h : ∀ F : FT, al_Wk F → al_Ok F (k_X11_lays_0 F Q) 0 → al_Ok F (k_X11_lays_14 F Q) 14 → al_Ok F (k_X11_lays_35 F Q) 35 → al_Ok F (k_X11_lays_49 F Q) 49 → al_Ok F (k_X11_lays_55 F Q) 55 → al_Ok F (k_X11_lays_128 F Q) 128 → al_Ok F (k_X11_lays_134 F Q) 134 → F 0 [some (.ref a0), some (.int a1), some (.int a2), none, none, none, none, none] [] n R I J) : CT m_X11_lays 0 [.ref a0, .int a1, .int a2] n R I J Q :=
  CT.of (by decide) hn (fun _ => rfl) (fun _ => Nat.le_of_ble_eq_true rfl) (fun F p l e s m args below meth c Rm t Q0 C hQ hr hm => h F (fun _ _ _ _ _ _ _ _ => S_wk C)
    (S_iload_n C dX11_lays_0 rfl (S_cS C ok_X11_isSheet (al_at 835 (by decide +kernel) rfl) (Nat.le_of_ble_eq_true rfl) (Nat.le_of_ble_eq_true rfl) dX11_lays_1 (S_ifne (tgt := 14) C dX11_lays_4 (by decide) (S_aload_n C dX11_lays_7 rfl (S_ldc C dX11_lays_8 (al_at 328 (by decide +kernel) rfl) (S_cV (ci := 11) C ok_X11_finding rfl (al_at 329 (by decide +kernel) rfl) (Nat.le_of_ble_eq_true rfl) (Nat.le_of_ble_eq_true rfl) dX11_lays_10 (S_iret C hQ hr dX11_lays_13)))))))
    (S_aload_n C dX11_lays_14 rfl (S_getR (ci := 11) (j := 5) C inG11 rfl (Nat.le_of_ble_eq_true rfl) rfl (al_at 294 (by decide +kernel) rfl) dX11_lays_15 (S_iload_n C dX11_lays_18 rfl (S_aald (ak := 5) C (fun _ _ _ _ _ _ => rfl) (fun _ => rfl) dX11_lays_19 (S_astore_n C dX11_lays_20 rfl (Nat.le_of_ble_eq_true rfl) (S_aload_n C dX11_lays_21 rfl (S_cV (ci := 7) C ok_X7_isMissing rfl (al_at 848 (by decide +kernel) rfl) (Nat.le_of_ble_eq_true rfl) (Nat.le_of_ble_eq_true rfl) dX11_lays_22 (S_ifeq (tgt := 35) C dX11_lays_25 (by decide) (S_aload_n C dX11_lays_28 rfl (S_ldc C dX11_lays_29 (al_at 852 (by decide +kernel) rfl) (S_cV (ci := 11) C ok_X11_finding rfl (al_at 329 (by decide +kernel) rfl) (Nat.le_of_ble_eq_true rfl) (Nat.le_of_ble_eq_true rfl) dX11_lays_31 (S_iret C hQ hr dX11_lays_34))))))))))))
    (S_iload_n C dX11_lays_35 rfl (S_cS C ok_X11_isSquare (al_at 321 (by decide +kernel) rfl) (Nat.le_of_ble_eq_true rfl) (Nat.le_of_ble_eq_true rfl) dX11_lays_36 (S_ifne (tgt := 49) C dX11_lays_39 (by decide) (S_aload_n C dX11_lays_42 rfl (S_ldc C dX11_lays_43 (al_at 328 (by decide +kernel) rfl) (S_cV (ci := 11) C ok_X11_finding rfl (al_at 329 (by decide +kernel) rfl) (Nat.le_of_ble_eq_true rfl) (Nat.le_of_ble_eq_true rfl) dX11_lays_45 (S_iret C hQ hr dX11_lays_48)))))))
    (S_iconst C dX11_lays_49 (by decide +kernel) (S_istore C dX11_lays_50 (Nat.le_of_ble_eq_true rfl) (S_iconst C dX11_lays_52 (by decide +kernel) (S_istore C dX11_lays_53 (Nat.le_of_ble_eq_true rfl) (fun _ _ _ _ _ _ h9 => h9)))))
    (S_iload C dX11_lays_55 (S_aload_n C dX11_lays_57 rfl (S_getI (ci := 7) (j := 1) C inG7 rfl (Nat.le_of_ble_eq_true rfl) rfl (al_at 279 (by decide +kernel) rfl) dX11_lays_58 (S_icmpge (tgt := 134) C dX11_lays_61 (by decide) (S_iload_n C dX11_lays_64 rfl (S_iload C dX11_lays_65 (S_iadd C dX11_lays_67 (S_bipush C dX11_lays_68 (by decide +kernel) (S_icmpge (tgt := 134) C dX11_lays_70 (by decide) (S_aload_n C dX11_lays_73 rfl (S_getR (ci := 7) (j := 2) C inG7 rfl (Nat.le_of_ble_eq_true rfl) rfl (al_at 281 (by decide +kernel) rfl) dX11_lays_74 (S_iload C dX11_lays_77 (S_lald C dX11_lays_79 (S_lstore C dX11_lays_80 (Nat.le_of_ble_eq_true rfl) (S_lload C dX11_lays_82 (S_lconst C dX11_lays_84 (by decide +kernel) (S_lcmp C dX11_lays_85 (S_iflt (tgt := 128) C dX11_lays_86 (by decide) (S_lload C dX11_lays_89 (S_ldc2 C dX11_lays_91 (al_at 870 (by decide +kernel) rfl) (S_lcmp C dX11_lays_94 (S_ifge (tgt := 128) C dX11_lays_95 (by decide) (S_aload_n C dX11_lays_98 rfl (S_getR (ci := 11) (j := 0) C inG11 rfl (Nat.le_of_ble_eq_true rfl) rfl (al_at 289 (by decide +kernel) rfl) dX11_lays_99 (S_lload C dX11_lays_102 (S_l2i C dX11_lays_104 (S_cV (ci := 9) C ok_X9_mayBe rfl (al_at 324 (by decide +kernel) rfl) (Nat.le_of_ble_eq_true rfl) (Nat.le_of_ble_eq_true rfl) dX11_lays_105 (S_ifeq (tgt := 128) C dX11_lays_108 (by decide) (S_aload_n C dX11_lays_111 rfl (S_getR (ci := 11) (j := 0) C inG11 rfl (Nat.le_of_ble_eq_true rfl) rfl (al_at 289 (by decide +kernel) rfl) dX11_lays_112 (S_iload_n C dX11_lays_115 rfl (S_iload C dX11_lays_116 (S_iadd C dX11_lays_118 (S_lload C dX11_lays_119 (S_l2i C dX11_lays_121 (S_cV (ci := 9) C ok_X9_lay rfl (al_at 333 (by decide +kernel) rfl) (Nat.le_of_ble_eq_true rfl) (Nat.le_of_ble_eq_true rfl) dX11_lays_122 (S_iinc C dX11_lays_125 (by decide +kernel) (Nat.le_of_ble_eq_true rfl) (fun _ _ _ _ _ _ h9 => h9))))))))))))))))))))))))))))))))))))))
    (S_iinc C dX11_lays_128 (by decide +kernel) (Nat.le_of_ble_eq_true rfl) (S_goto (tgt := 55) C dX11_lays_131 (by decide)))
    (S_aload_n C dX11_lays_134 rfl (S_getR (ci := 11) (j := 3) C inG11 rfl (Nat.le_of_ble_eq_true rfl) rfl (al_at 292 (by decide +kernel) rfl) dX11_lays_135 (S_cV (ci := 8) C ok_X8_forget rfl (al_at 338 (by decide +kernel) rfl) (Nat.le_of_ble_eq_true rfl) (Nat.le_of_ble_eq_true rfl) dX11_lays_138 (S_iload C dX11_lays_141 (S_iret C hQ hr dX11_lays_143))))))
theorem dX11_liveYear_0 : decode cX11_liveYear 0 = .ok (.aload_n 0, 1) := by decide +kernel
theorem dX11_liveYear_1 : decode cX11_liveYear 1 = .ok (.getfield 30, 3) := by decide +kernel
theorem dX11_liveYear_4 : decode cX11_liveYear 4 = .ok (.getfield 114, 3) := by decide +kernel
theorem dX11_liveYear_7 : decode cX11_liveYear 7 = .ok (.iload_n 1, 1) := by decide +kernel
theorem dX11_liveYear_8 : decode cX11_liveYear 8 = .ok (.aaload, 1) := by decide +kernel
theorem dX11_liveYear_9 : decode cX11_liveYear 9 = .ok (.astore_n 2, 1) := by decide +kernel
theorem dX11_liveYear_10 : decode cX11_liveYear 10 = .ok (.aload_n 2, 1) := by decide +kernel
theorem dX11_liveYear_11 : decode cX11_liveYear 11 = .ok (.getfield 123, 3) := by decide +kernel
theorem dX11_liveYear_14 : decode cX11_liveYear 14 = .ok (.aload_n 0, 1) := by decide +kernel
theorem dX11_liveYear_15 : decode cX11_liveYear 15 = .ok (.getfield 44, 3) := by decide +kernel
theorem dX11_liveYear_18 : decode cX11_liveYear 18 = .ok (.iload_n 1, 1) := by decide +kernel
theorem dX11_liveYear_19 : decode cX11_liveYear 19 = .ok (.invokevirtual 201, 3) := by decide +kernel
theorem dX11_liveYear_22 : decode cX11_liveYear 22 = .ok (.imul, 1) := by decide +kernel
theorem dX11_liveYear_23 : decode cX11_liveYear 23 = .ok (.istore_n 3, 1) := by decide +kernel
theorem dX11_liveYear_24 : decode cX11_liveYear 24 = .ok (.iload_n 3, 1) := by decide +kernel
theorem dX11_liveYear_25 : decode cX11_liveYear 25 = .ok (.aload_n 2, 1) := by decide +kernel
theorem dX11_liveYear_26 : decode cX11_liveYear 26 = .ok (.getfield 126, 3) := by decide +kernel
theorem dX11_liveYear_29 : decode cX11_liveYear 29 = .ok (.invokestatic 266, 3) := by decide +kernel
theorem dX11_liveYear_32 : decode cX11_liveYear 32 = .ok (.istore 4, 2) := by decide +kernel
theorem dX11_liveYear_34 : decode cX11_liveYear 34 = .ok (.aload_n 2, 1) := by decide +kernel
theorem dX11_liveYear_35 : decode cX11_liveYear 35 = .ok (.dup, 1) := by decide +kernel
theorem dX11_liveYear_36 : decode cX11_liveYear 36 = .ok (.getfield 126, 3) := by decide +kernel
theorem dX11_liveYear_39 : decode cX11_liveYear 39 = .ok (.iload 4, 2) := by decide +kernel
theorem dX11_liveYear_41 : decode cX11_liveYear 41 = .ok (.isub, 1) := by decide +kernel
theorem dX11_liveYear_42 : decode cX11_liveYear 42 = .ok (.putfield 126, 3) := by decide +kernel
theorem dX11_liveYear_45 : decode cX11_liveYear 45 = .ok (.aload_n 2, 1) := by decide +kernel
theorem dX11_liveYear_46 : decode cX11_liveYear 46 = .ok (.dup, 1) := by decide +kernel
theorem dX11_liveYear_47 : decode cX11_liveYear 47 = .ok (.getfield 141, 3) := by decide +kernel
theorem dX11_liveYear_50 : decode cX11_liveYear 50 = .ok (.iload_n 3, 1) := by decide +kernel
theorem dX11_liveYear_51 : decode cX11_liveYear 51 = .ok (.iload 4, 2) := by decide +kernel
theorem dX11_liveYear_53 : decode cX11_liveYear 53 = .ok (.isub, 1) := by decide +kernel
theorem dX11_liveYear_54 : decode cX11_liveYear 54 = .ok (.iadd, 1) := by decide +kernel
theorem dX11_liveYear_55 : decode cX11_liveYear 55 = .ok (.putfield 141, 3) := by decide +kernel
theorem dX11_liveYear_58 : decode cX11_liveYear 58 = .ok (.aload_n 2, 1) := by decide +kernel
theorem dX11_liveYear_59 : decode cX11_liveYear 59 = .ok (.getfield 126, 3) := by decide +kernel
theorem dX11_liveYear_62 : decode cX11_liveYear 62 = .ok (.bipush 40, 2) := by decide +kernel
theorem dX11_liveYear_64 : decode cX11_liveYear 64 = .ok (.if_icmp .lt 44, 3) := by decide +kernel
theorem dX11_liveYear_67 : decode cX11_liveYear 67 = .ok (.aload_n 2, 1) := by decide +kernel
theorem dX11_liveYear_68 : decode cX11_liveYear 68 = .ok (.getfield 135, 3) := by decide +kernel
theorem dX11_liveYear_71 : decode cX11_liveYear 71 = .ok (.bipush 8, 2) := by decide +kernel
theorem dX11_liveYear_73 : decode cX11_liveYear 73 = .ok (.if_icmp .ge 35, 3) := by decide +kernel
theorem dX11_liveYear_76 : decode cX11_liveYear 76 = .ok (.aload_n 0, 1) := by decide +kernel
theorem dX11_liveYear_77 : decode cX11_liveYear 77 = .ok (.getfield 44, 3) := by decide +kernel
theorem dX11_liveYear_80 : decode cX11_liveYear 80 = .ok (.iload_n 1, 1) := by decide +kernel
theorem dX11_liveYear_81 : decode cX11_liveYear 81 = .ok (.invokevirtual 271, 3) := by decide +kernel
theorem dX11_liveYear_84 : decode cX11_liveYear 84 = .ok (.istore 5, 2) := by decide +kernel
theorem dX11_liveYear_86 : decode cX11_liveYear 86 = .ok (.iload 5, 2) := by decide +kernel
theorem dX11_liveYear_88 : decode cX11_liveYear 88 = .ok (.ifCond .lt 20, 3) := by decide +kernel
theorem dX11_liveYear_91 : decode cX11_liveYear 91 = .ok (.aload_n 2, 1) := by decide +kernel
theorem dX11_liveYear_92 : decode cX11_liveYear 92 = .ok (.iload 5, 2) := by decide +kernel
theorem dX11_liveYear_94 : decode cX11_liveYear 94 = .ok (.invokevirtual 182, 3) := by decide +kernel
theorem dX11_liveYear_97 : decode cX11_liveYear 97 = .ok (.aload_n 2, 1) := by decide +kernel
theorem dX11_liveYear_98 : decode cX11_liveYear 98 = .ok (.dup, 1) := by decide +kernel
theorem dX11_liveYear_99 : decode cX11_liveYear 99 = .ok (.getfield 126, 3) := by decide +kernel
theorem dX11_liveYear_102 : decode cX11_liveYear 102 = .ok (.bipush 40, 2) := by decide +kernel
theorem dX11_liveYear_104 : decode cX11_liveYear 104 = .ok (.isub, 1) := by decide +kernel
theorem dX11_liveYear_105 : decode cX11_liveYear 105 = .ok (.putfield 126, 3) := by decide +kernel
theorem dX11_liveYear_108 : decode cX11_liveYear 108 = .ok (.iload 4, 2) := by decide +kernel
theorem dX11_liveYear_110 : decode cX11_liveYear 110 = .ok (.ireturn, 1) := by decide +kernel
def k_X11_liveYear_0 (F : FT) (Q : QT) : KT := o_aload 0 (o_getR 11 0 (o_getR 9 2 (o_iload 1 (o_aald 4 (o_astore 2 (o_aload 2 (o_getI 2 1 (o_aload 0 (o_getR 11 3 (o_iload 1 (o_cV 8 m_X8_countsOf 2 (o_imul (o_istore 3 (o_iload 3 (o_aload 2 (o_getI 2 2 (o_mmin (o_istore 4 (o_aload 2 (o_dup (o_getI 2 2 (o_iload 4 (o_isub (o_putI 2 2 (o_aload 2 (o_dup (o_getI 2 3 (o_iload 3 (o_iload 4 (o_isub (o_iadd (o_putI 2 3 (o_aload 2 (o_getI 2 2 (o_ic (nI 40) (o_iclt (F 108) (o_aload 2 (o_getI 2 5 (o_ic (nI 8) (o_icge (F 108) (o_aload 0 (o_getR 11 3 (o_iload 1 (o_cV 8 m_X8_dearestCorner 2 (o_istore 5 (o_iload 5 (o_iflt (F 108) (o_aload 2 (o_iload 5 (o_cV 2 m_X2_addRounded 2 (o_aload 2 (o_dup (o_getI 2 2 (o_ic (nI 40) (o_isub (o_putI 2 2 (F 108)))))))))))))))))))))))))))))))))))))))))))))))))))))))))
def k_X11_liveYear_108 (F : FT) (Q : QT) : KT := o_iload 4 (o_iret Q)
set_option maxRecDepth 20000 in
theorem r_X11_liveYear {a0 : Nat} {a1 : Int32} {n : Nat} {R : RR} {I : II} {J : JJ} {Q : QT} (hn : n + 0 ≤ 90) (h : ∀ F : FT, al_Wk F → al_Ok F (k_X11_liveYear_0 F Q) 0 → al_Ok F (k_X11_liveYear_108 F Q) 108 → F 0 [some (.ref a0), some (.int a1), none, none, none, none] [] n R I J) : CT m_X11_liveYear 0 [.ref a0, .int a1] n R I J Q :=
  CT.of (by decide) hn (fun _ => rfl) (fun _ => Nat.le_of_ble_eq_true rfl) (fun F p l e s m args below meth c Rm t Q0 C hQ hr hm => h F (fun _ _ _ _ _ _ _ _ => S_wk C)
    (S_aload_n C dX11_liveYear_0 rfl (S_getR (ci := 11) (j := 0) C inG11 rfl (Nat.le_of_ble_eq_true rfl) rfl (al_at 289 (by decide +kernel) rfl) dX11_liveYear_1 (S_getR (ci := 9) (j := 2) C inG9 rfl (Nat.le_of_ble_eq_true rfl) rfl (al_at 178 (by decide +kernel) rfl) dX11_liveYear_4 (S_iload_n C dX11_liveYear_7 rfl (S_aald (ak := 4) C (fun _ _ _ _ _ _ => rfl) (fun _ => rfl) dX11_liveYear_8 (S_astore_n C dX11_liveYear_9 rfl (Nat.le_of_ble_eq_true rfl) (S_aload_n C dX11_liveYear_10 rfl (S_getI (ci := 2) (j := 1) C inG2 rfl (Nat.le_of_ble_eq_true rfl) rfl (al_at 149 (by decide +kernel) rfl) dX11_liveYear_11 (S_aload_n C dX11_liveYear_14 rfl (S_getR (ci := 11) (j := 3) C inG11 rfl (Nat.le_of_ble_eq_true rfl) rfl (al_at 292 (by decide +kernel) rfl) dX11_liveYear_15 (S_iload_n C dX11_liveYear_18 rfl (S_cV (ci := 8) C ok_X8_countsOf rfl (al_at 393 (by decide +kernel) rfl) (Nat.le_of_ble_eq_true rfl) (Nat.le_of_ble_eq_true rfl) dX11_liveYear_19 (S_imul C dX11_liveYear_22 (S_istore_n C dX11_liveYear_23 rfl (Nat.le_of_ble_eq_true rfl) (S_iload_n C dX11_liveYear_24 rfl (S_aload_n C dX11_liveYear_25 rfl (S_getI (ci := 2) (j := 2) C inG2 rfl (Nat.le_of_ble_eq_true rfl) rfl (al_at 151 (by decide +kernel) rfl) dX11_liveYear_26 (S_mmin C (al_at 657 (by decide +kernel) rfl) (al_at 658 (by decide +kernel) rfl) (al_at 73 (by decide +kernel) rfl) (al_at 659 (by decide +kernel) rfl) (Nat.le_of_ble_eq_true rfl) (Nat.le_of_ble_eq_true rfl) dX11_liveYear_29 (S_istore C dX11_liveYear_32 (Nat.le_of_ble_eq_true rfl) (S_aload_n C dX11_liveYear_34 rfl (S_dup C dX11_liveYear_35 (S_getI (ci := 2) (j := 2) C inG2 rfl (Nat.le_of_ble_eq_true rfl) rfl (al_at 151 (by decide +kernel) rfl) dX11_liveYear_36 (S_iload C dX11_liveYear_39 (S_isub C dX11_liveYear_41 (S_putI (ci := 2) (j := 2) C inG2 rfl (Nat.le_of_ble_eq_true rfl) tyX2 tyX2_ok nmX2 rfl rfl (tyX2_ok 2 (Nat.le_of_ble_eq_true rfl)) (al_at 151 (by decide +kernel) rfl) dX11_liveYear_42 (S_aload_n C dX11_liveYear_45 rfl (S_dup C dX11_liveYear_46 (S_getI (ci := 2) (j := 3) C inG2 rfl (Nat.le_of_ble_eq_true rfl) rfl (al_at 154 (by decide +kernel) rfl) dX11_liveYear_47 (S_iload_n C dX11_liveYear_50 rfl (S_iload C dX11_liveYear_51 (S_isub C dX11_liveYear_53 (S_iadd C dX11_liveYear_54 (S_putI (ci := 2) (j := 3) C inG2 rfl (Nat.le_of_ble_eq_true rfl) tyX2 tyX2_ok nmX2 rfl rfl (tyX2_ok 3 (Nat.le_of_ble_eq_true rfl)) (al_at 154 (by decide +kernel) rfl) dX11_liveYear_55 (S_aload_n C dX11_liveYear_58 rfl (S_getI (ci := 2) (j := 2) C inG2 rfl (Nat.le_of_ble_eq_true rfl) rfl (al_at 151 (by decide +kernel) rfl) dX11_liveYear_59 (S_bipush C dX11_liveYear_62 (by decide +kernel) (S_icmplt (tgt := 108) C dX11_liveYear_64 (by decide) (S_aload_n C dX11_liveYear_67 rfl (S_getI (ci := 2) (j := 5) C inG2 rfl (Nat.le_of_ble_eq_true rfl) rfl (al_at 157 (by decide +kernel) rfl) dX11_liveYear_68 (S_bipush C dX11_liveYear_71 (by decide +kernel) (S_icmpge (tgt := 108) C dX11_liveYear_73 (by decide) (S_aload_n C dX11_liveYear_76 rfl (S_getR (ci := 11) (j := 3) C inG11 rfl (Nat.le_of_ble_eq_true rfl) rfl (al_at 292 (by decide +kernel) rfl) dX11_liveYear_77 (S_iload_n C dX11_liveYear_80 rfl (S_cV (ci := 8) C ok_X8_dearestCorner rfl (al_at 660 (by decide +kernel) rfl) (Nat.le_of_ble_eq_true rfl) (Nat.le_of_ble_eq_true rfl) dX11_liveYear_81 (S_istore C dX11_liveYear_84 (Nat.le_of_ble_eq_true rfl) (S_iload C dX11_liveYear_86 (S_iflt (tgt := 108) C dX11_liveYear_88 (by decide) (S_aload_n C dX11_liveYear_91 rfl (S_iload C dX11_liveYear_92 (S_cV (ci := 2) C ok_X2_addRounded rfl (al_at 550 (by decide +kernel) rfl) (Nat.le_of_ble_eq_true rfl) (Nat.le_of_ble_eq_true rfl) dX11_liveYear_94 (S_aload_n C dX11_liveYear_97 rfl (S_dup C dX11_liveYear_98 (S_getI (ci := 2) (j := 2) C inG2 rfl (Nat.le_of_ble_eq_true rfl) rfl (al_at 151 (by decide +kernel) rfl) dX11_liveYear_99 (S_bipush C dX11_liveYear_102 (by decide +kernel) (S_isub C dX11_liveYear_104 (S_putI (ci := 2) (j := 2) C inG2 rfl (Nat.le_of_ble_eq_true rfl) tyX2 tyX2_ok nmX2 rfl rfl (tyX2_ok 2 (Nat.le_of_ble_eq_true rfl)) (al_at 151 (by decide +kernel) rfl) dX11_liveYear_105 (fun _ _ _ _ _ _ h9 => h9))))))))))))))))))))))))))))))))))))))))))))))))))))))))))
    (S_iload C dX11_liveYear_108 (S_iret C hQ hr dX11_liveYear_110)))
theorem dX11_neighbours_0 : decode cX11_neighbours 0 = .ok (.iconst (-1), 1) := by decide +kernel
theorem dX11_neighbours_1 : decode cX11_neighbours 1 = .ok (.istore_n 1, 1) := by decide +kernel
theorem dX11_neighbours_2 : decode cX11_neighbours 2 = .ok (.iconst 0, 1) := by decide +kernel
theorem dX11_neighbours_3 : decode cX11_neighbours 3 = .ok (.istore_n 2, 1) := by decide +kernel
theorem dX11_neighbours_4 : decode cX11_neighbours 4 = .ok (.iconst 0, 1) := by decide +kernel
theorem dX11_neighbours_5 : decode cX11_neighbours 5 = .ok (.istore_n 3, 1) := by decide +kernel
theorem dX11_neighbours_6 : decode cX11_neighbours 6 = .ok (.iload_n 3, 1) := by decide +kernel
theorem dX11_neighbours_7 : decode cX11_neighbours 7 = .ok (.aload_n 0, 1) := by decide +kernel
theorem dX11_neighbours_8 : decode cX11_neighbours 8 = .ok (.getfield 30, 3) := by decide +kernel
theorem dX11_neighbours_11 : decode cX11_neighbours 11 = .ok (.getfield 102, 3) := by decide +kernel
theorem dX11_neighbours_14 : decode cX11_neighbours 14 = .ok (.if_icmp .ge 61, 3) := by decide +kernel
theorem dX11_neighbours_17 : decode cX11_neighbours 17 = .ok (.iload_n 3, 1) := by decide +kernel
theorem dX11_neighbours_18 : decode cX11_neighbours 18 = .ok (.iconst 1, 1) := by decide +kernel
theorem dX11_neighbours_19 : decode cX11_neighbours 19 = .ok (.iadd, 1) := by decide +kernel
theorem dX11_neighbours_20 : decode cX11_neighbours 20 = .ok (.istore 4, 2) := by decide +kernel
theorem dX11_neighbours_22 : decode cX11_neighbours 22 = .ok (.iload 4, 2) := by decide +kernel
theorem dX11_neighbours_24 : decode cX11_neighbours 24 = .ok (.aload_n 0, 1) := by decide +kernel
theorem dX11_neighbours_25 : decode cX11_neighbours 25 = .ok (.getfield 30, 3) := by decide +kernel
theorem dX11_neighbours_28 : decode cX11_neighbours 28 = .ok (.getfield 102, 3) := by decide +kernel
theorem dX11_neighbours_31 : decode cX11_neighbours 31 = .ok (.if_icmp .ge 38, 3) := by decide +kernel
theorem dX11_neighbours_34 : decode cX11_neighbours 34 = .ok (.aload_n 0, 1) := by decide +kernel
theorem dX11_neighbours_35 : decode cX11_neighbours 35 = .ok (.getfield 30, 3) := by decide +kernel
theorem dX11_neighbours_38 : decode cX11_neighbours 38 = .ok (.iload_n 3, 1) := by decide +kernel
theorem dX11_neighbours_39 : decode cX11_neighbours 39 = .ok (.iload 4, 2) := by decide +kernel
theorem dX11_neighbours_41 : decode cX11_neighbours 41 = .ok (.invokevirtual 204, 3) := by decide +kernel
theorem dX11_neighbours_44 : decode cX11_neighbours 44 = .ok (.istore 5, 2) := by decide +kernel
theorem dX11_neighbours_46 : decode cX11_neighbours 46 = .ok (.iload 5, 2) := by decide +kernel
theorem dX11_neighbours_48 : decode cX11_neighbours 48 = .ok (.iload_n 2, 1) := by decide +kernel
theorem dX11_neighbours_49 : decode cX11_neighbours 49 = .ok (.if_icmp .le 14, 3) := by decide +kernel
theorem dX11_neighbours_52 : decode cX11_neighbours 52 = .ok (.iload 5, 2) := by decide +kernel
theorem dX11_neighbours_54 : decode cX11_neighbours 54 = .ok (.istore_n 2, 1) := by decide +kernel
theorem dX11_neighbours_55 : decode cX11_neighbours 55 = .ok (.bipush 10, 2) := by decide +kernel
theorem dX11_neighbours_57 : decode cX11_neighbours 57 = .ok (.iload_n 3, 1) := by decide +kernel
theorem dX11_neighbours_58 : decode cX11_neighbours 58 = .ok (.imul, 1) := by decide +kernel
theorem dX11_neighbours_59 : decode cX11_neighbours 59 = .ok (.iload 4, 2) := by decide +kernel
theorem dX11_neighbours_61 : decode cX11_neighbours 61 = .ok (.iadd, 1) := by decide +kernel
theorem dX11_neighbours_62 : decode cX11_neighbours 62 = .ok (.istore_n 1, 1) := by decide +kernel
theorem dX11_neighbours_63 : decode cX11_neighbours 63 = .ok (.iinc 4 1, 3) := by decide +kernel
theorem dX11_neighbours_66 : decode cX11_neighbours 66 = .ok (.goto (-44), 3) := by decide +kernel
theorem dX11_neighbours_69 : decode cX11_neighbours 69 = .ok (.iinc 3 1, 3) := by decide +kernel
theorem dX11_neighbours_72 : decode cX11_neighbours 72 = .ok (.goto (-66), 3) := by decide +kernel
theorem dX11_neighbours_75 : decode cX11_neighbours 75 = .ok (.iload_n 1, 1) := by decide +kernel
theorem dX11_neighbours_76 : decode cX11_neighbours 76 = .ok (.ifCond .lt 7, 3) := by decide +kernel
theorem dX11_neighbours_79 : decode cX11_neighbours 79 = .ok (.iload_n 1, 1) := by decide +kernel
theorem dX11_neighbours_80 : decode cX11_neighbours 80 = .ok (.goto 9, 3) := by decide +kernel
theorem dX11_neighbours_83 : decode cX11_neighbours 83 = .ok (.aload_n 0, 1) := by decide +kernel
theorem dX11_neighbours_84 : decode cX11_neighbours 84 = .ok (.ldc 164, 2) := by decide +kernel
theorem dX11_neighbours_86 : decode cX11_neighbours 86 = .ok (.invokevirtual 82, 3) := by decide +kernel
theorem dX11_neighbours_89 : decode cX11_neighbours 89 = .ok (.ireturn, 1) := by decide +kernel
def k_X11_neighbours_0 (F : FT) (Q : QT) : KT := o_ic (-1) (o_istore 1 (o_ic (nI 0) (o_istore 2 (o_ic (nI 0) (o_istore 3 (F 6))))))
def k_X11_neighbours_6 (F : FT) (Q : QT) : KT := o_iload 3 (o_aload 0 (o_getR 11 0 (o_getI 9 3 (o_icge (F 75) (o_iload 3 (o_ic (nI 1) (o_iadd (o_istore 4 (F 22)))))))))
def k_X11_neighbours_22 (F : FT) (Q : QT) : KT := o_iload 4 (o_aload 0 (o_getR 11 0 (o_getI 9 3 (o_icge (F 69) (o_aload 0 (o_getR 11 0 (o_iload 3 (o_iload 4 (o_cV 9 m_X9_cornersInCommon 3 (o_istore 5 (o_iload 5 (o_iload 2 (o_icle (F 63) (o_iload 5 (o_istore 2 (o_ic (nI 10) (o_iload 3 (o_imul (o_iload 4 (o_iadd (o_istore 1 (F 63))))))))))))))))))))))
def k_X11_neighbours_63 (F : FT) (Q : QT) : KT := o_iinc 4 (nI 1) (F 22)
def k_X11_neighbours_69 (F : FT) (Q : QT) : KT := o_iinc 3 (nI 1) (F 6)
def k_X11_neighbours_75 (F : FT) (Q : QT) : KT := o_iload 1 (o_iflt (F 83) (o_iload 1 (F 89)))
def k_X11_neighbours_83 (F : FT) (Q : QT) : KT := o_aload 0 (o_ic (-1000000004) (o_cV 11 m_X11_finding 2 (F 89)))
def k_X11_neighbours_89 (F : FT) (Q : QT) : KT := o_iret Q
set_option maxRecDepth 20000 in
theorem r_X11_neighbours {a0 : Nat} {n : Nat} {R : RR} {I : II} {J : JJ} {Q : QT} (hn : n + 0 ≤ 90) (h : ∀ F : FT, al_Wk F → al_Ok F (k_X11_neighbours_0 F Q) 0 → al_Ok F (k_X11_neighbours_6 F Q) 6 → al_Ok F (k_X11_neighbours_22 F Q) 22 → al_Ok F (k_X11_neighbours_63 F Q) 63 → al_Ok F (k_X11_neighbours_69 F Q) 69 → al_Ok F (k_X11_neighbours_75 F Q) 75 → al_Ok F (k_X11_neighbours_83 F Q) 83 → al_Ok F (k_X11_neighbours_89 F Q) 89 → F 0 [some (.ref a0), none, none, none, none, none] [] n R I J) : CT m_X11_neighbours 0 [.ref a0] n R I J Q :=
  CT.of (by decide) hn (fun _ => rfl) (fun _ => Nat.le_of_ble_eq_true rfl) (fun F p l e s m args below meth c Rm t Q0 C hQ hr hm => h F (fun _ _ _ _ _ _ _ _ => S_wk C)
    (S_iconst C dX11_neighbours_0 (by decide +kernel) (S_istore_n C dX11_neighbours_1 rfl (Nat.le_of_ble_eq_true rfl) (S_iconst C dX11_neighbours_2 (by decide +kernel) (S_istore_n C dX11_neighbours_3 rfl (Nat.le_of_ble_eq_true rfl) (S_iconst C dX11_neighbours_4 (by decide +kernel) (S_istore_n C dX11_neighbours_5 rfl (Nat.le_of_ble_eq_true rfl) (fun _ _ _ _ _ _ h9 => h9)))))))
    (S_iload_n C dX11_neighbours_6 rfl (S_aload_n C dX11_neighbours_7 rfl (S_getR (ci := 11) (j := 0) C inG11 rfl (Nat.le_of_ble_eq_true rfl) rfl (al_at 289 (by decide +kernel) rfl) dX11_neighbours_8 (S_getI (ci := 9) (j := 3) C inG9 rfl (Nat.le_of_ble_eq_true rfl) rfl (al_at 181 (by decide +kernel) rfl) dX11_neighbours_11 (S_icmpge (tgt := 75) C dX11_neighbours_14 (by decide) (S_iload_n C dX11_neighbours_17 rfl (S_iconst C dX11_neighbours_18 (by decide +kernel) (S_iadd C dX11_neighbours_19 (S_istore C dX11_neighbours_20 (Nat.le_of_ble_eq_true rfl) (fun _ _ _ _ _ _ h9 => h9))))))))))
    (S_iload C dX11_neighbours_22 (S_aload_n C dX11_neighbours_24 rfl (S_getR (ci := 11) (j := 0) C inG11 rfl (Nat.le_of_ble_eq_true rfl) rfl (al_at 289 (by decide +kernel) rfl) dX11_neighbours_25 (S_getI (ci := 9) (j := 3) C inG9 rfl (Nat.le_of_ble_eq_true rfl) rfl (al_at 181 (by decide +kernel) rfl) dX11_neighbours_28 (S_icmpge (tgt := 69) C dX11_neighbours_31 (by decide) (S_aload_n C dX11_neighbours_34 rfl (S_getR (ci := 11) (j := 0) C inG11 rfl (Nat.le_of_ble_eq_true rfl) rfl (al_at 289 (by decide +kernel) rfl) dX11_neighbours_35 (S_iload_n C dX11_neighbours_38 rfl (S_iload C dX11_neighbours_39 (S_cV (ci := 9) C ok_X9_cornersInCommon rfl (al_at 645 (by decide +kernel) rfl) (Nat.le_of_ble_eq_true rfl) (Nat.le_of_ble_eq_true rfl) dX11_neighbours_41 (S_istore C dX11_neighbours_44 (Nat.le_of_ble_eq_true rfl) (S_iload C dX11_neighbours_46 (S_iload_n C dX11_neighbours_48 rfl (S_icmple (tgt := 63) C dX11_neighbours_49 (by decide) (S_iload C dX11_neighbours_52 (S_istore_n C dX11_neighbours_54 rfl (Nat.le_of_ble_eq_true rfl) (S_bipush C dX11_neighbours_55 (by decide +kernel) (S_iload_n C dX11_neighbours_57 rfl (S_imul C dX11_neighbours_58 (S_iload C dX11_neighbours_59 (S_iadd C dX11_neighbours_61 (S_istore_n C dX11_neighbours_62 rfl (Nat.le_of_ble_eq_true rfl) (fun _ _ _ _ _ _ h9 => h9)))))))))))))))))))))))
    (S_iinc C dX11_neighbours_63 (by decide +kernel) (Nat.le_of_ble_eq_true rfl) (S_goto (tgt := 22) C dX11_neighbours_66 (by decide)))
    (S_iinc C dX11_neighbours_69 (by decide +kernel) (Nat.le_of_ble_eq_true rfl) (S_goto (tgt := 6) C dX11_neighbours_72 (by decide)))
    (S_iload_n C dX11_neighbours_75 rfl (S_iflt (tgt := 83) C dX11_neighbours_76 (by decide) (S_iload_n C dX11_neighbours_79 rfl (S_goto (tgt := 89) C dX11_neighbours_80 (by decide)))))
    (S_aload_n C dX11_neighbours_83 rfl (S_ldc C dX11_neighbours_84 (al_at 517 (by decide +kernel) rfl) (S_cV (ci := 11) C ok_X11_finding rfl (al_at 329 (by decide +kernel) rfl) (Nat.le_of_ble_eq_true rfl) (Nat.le_of_ble_eq_true rfl) dX11_neighbours_86 (fun _ _ _ _ _ _ h9 => h9))))
    (S_iret C hQ hr dX11_neighbours_89))
theorem dX11_of_0 : decode cX11_of 0 = .ok (.aload_n 0, 1) := by decide +kernel
theorem dX11_of_1 : decode cX11_of 1 = .ok (.iload_n 1, 1) := by decide +kernel
theorem dX11_of_2 : decode cX11_of 2 = .ok (.invokevirtual 111, 3) := by decide +kernel
theorem dX11_of_5 : decode cX11_of 5 = .ok (.ifCond .ne 10, 3) := by decide +kernel
theorem dX11_of_8 : decode cX11_of 8 = .ok (.aload_n 0, 1) := by decide +kernel
theorem dX11_of_9 : decode cX11_of 9 = .ok (.ldc 81, 2) := by decide +kernel
theorem dX11_of_11 : decode cX11_of 11 = .ok (.invokevirtual 82, 3) := by decide +kernel
theorem dX11_of_14 : decode cX11_of 14 = .ok (.ireturn, 1) := by decide +kernel
theorem dX11_of_15 : decode cX11_of 15 = .ok (.aload_n 0, 1) := by decide +kernel
theorem dX11_of_16 : decode cX11_of 16 = .ok (.getfield 30, 3) := by decide +kernel
theorem dX11_of_19 : decode cX11_of 19 = .ok (.getfield 114, 3) := by decide +kernel
theorem dX11_of_22 : decode cX11_of 22 = .ok (.iload_n 1, 1) := by decide +kernel
theorem dX11_of_23 : decode cX11_of 23 = .ok (.aaload, 1) := by decide +kernel
theorem dX11_of_24 : decode cX11_of 24 = .ok (.astore_n 3, 1) := by decide +kernel
theorem dX11_of_25 : decode cX11_of 25 = .ok (.iload_n 2, 1) := by decide +kernel
theorem dX11_of_26 : decode cX11_of 26 = .ok (.tableswitch 98 0 7 #[46, 51, 56, 61, 73, 82, 87, 93], 46) := by decide +kernel
theorem dX11_of_72 : decode cX11_of 72 = .ok (.aload_n 3, 1) := by decide +kernel
theorem dX11_of_73 : decode cX11_of 73 = .ok (.getfield 118, 3) := by decide +kernel
theorem dX11_of_76 : decode cX11_of 76 = .ok (.ireturn, 1) := by decide +kernel
theorem dX11_of_77 : decode cX11_of 77 = .ok (.aload_n 3, 1) := by decide +kernel
theorem dX11_of_78 : decode cX11_of 78 = .ok (.getfield 123, 3) := by decide +kernel
theorem dX11_of_81 : decode cX11_of 81 = .ok (.ireturn, 1) := by decide +kernel
theorem dX11_of_82 : decode cX11_of 82 = .ok (.aload_n 3, 1) := by decide +kernel
theorem dX11_of_83 : decode cX11_of 83 = .ok (.getfield 126, 3) := by decide +kernel
theorem dX11_of_86 : decode cX11_of 86 = .ok (.ireturn, 1) := by decide +kernel
theorem dX11_of_87 : decode cX11_of 87 = .ok (.aload_n 0, 1) := by decide +kernel
theorem dX11_of_88 : decode cX11_of 88 = .ok (.getfield 30, 3) := by decide +kernel
theorem dX11_of_91 : decode cX11_of 91 = .ok (.bipush 10, 2) := by decide +kernel
theorem dX11_of_93 : decode cX11_of 93 = .ok (.iload_n 1, 1) := by decide +kernel
theorem dX11_of_94 : decode cX11_of 94 = .ok (.iadd, 1) := by decide +kernel
theorem dX11_of_95 : decode cX11_of 95 = .ok (.invokevirtual 129, 3) := by decide +kernel
theorem dX11_of_98 : decode cX11_of 98 = .ok (.ireturn, 1) := by decide +kernel
theorem dX11_of_99 : decode cX11_of 99 = .ok (.aload_n 0, 1) := by decide +kernel
theorem dX11_of_100 : decode cX11_of 100 = .ok (.getfield 30, 3) := by decide +kernel
theorem dX11_of_103 : decode cX11_of 103 = .ok (.iload_n 1, 1) := by decide +kernel
theorem dX11_of_104 : decode cX11_of 104 = .ok (.invokevirtual 132, 3) := by decide +kernel
theorem dX11_of_107 : decode cX11_of 107 = .ok (.ireturn, 1) := by decide +kernel
theorem dX11_of_108 : decode cX11_of 108 = .ok (.aload_n 3, 1) := by decide +kernel
theorem dX11_of_109 : decode cX11_of 109 = .ok (.getfield 135, 3) := by decide +kernel
theorem dX11_of_112 : decode cX11_of 112 = .ok (.ireturn, 1) := by decide +kernel
theorem dX11_of_113 : decode cX11_of 113 = .ok (.aload_n 0, 1) := by decide +kernel
theorem dX11_of_114 : decode cX11_of 114 = .ok (.iload_n 1, 1) := by decide +kernel
theorem dX11_of_115 : decode cX11_of 115 = .ok (.invokevirtual 138, 3) := by decide +kernel
theorem dX11_of_118 : decode cX11_of 118 = .ok (.ireturn, 1) := by decide +kernel
theorem dX11_of_119 : decode cX11_of 119 = .ok (.aload_n 3, 1) := by decide +kernel
theorem dX11_of_120 : decode cX11_of 120 = .ok (.getfield 141, 3) := by decide +kernel
theorem dX11_of_123 : decode cX11_of 123 = .ok (.ireturn, 1) := by decide +kernel
theorem dX11_of_124 : decode cX11_of 124 = .ok (.aload_n 0, 1) := by decide +kernel
theorem dX11_of_125 : decode cX11_of 125 = .ok (.ldc 81, 2) := by decide +kernel
theorem dX11_of_127 : decode cX11_of 127 = .ok (.invokevirtual 82, 3) := by decide +kernel
theorem dX11_of_130 : decode cX11_of 130 = .ok (.ireturn, 1) := by decide +kernel
def k_X11_of_0 (F : FT) (Q : QT) : KT := o_aload 0 (o_iload 1 (o_cV 11 m_X11_isHouse 2 (o_ifne (F 15) (o_aload 0 (o_ic (-1000000001) (o_cV 11 m_X11_finding 2 (o_iret Q)))))))
def k_X11_of_15 (F : FT) (Q : QT) : KT := o_aload 0 (o_getR 11 0 (o_getR 9 2 (o_iload 1 (o_aald 4 (o_astore 3 (o_iload 2 (o_tsw (nI 0) [F 72, F 77, F 82, F 87, F 99, F 108, F 113, F 119] (F 124))))))))
def k_X11_of_72 (F : FT) (Q : QT) : KT := o_aload 3 (o_getI 2 0 (o_iret Q))
def k_X11_of_77 (F : FT) (Q : QT) : KT := o_aload 3 (o_getI 2 1 (o_iret Q))
def k_X11_of_82 (F : FT) (Q : QT) : KT := o_aload 3 (o_getI 2 2 (o_iret Q))
def k_X11_of_87 (F : FT) (Q : QT) : KT := o_aload 0 (o_getR 11 0 (o_ic (nI 10) (o_iload 1 (o_iadd (o_cV 9 m_X9_squaresThatAre 2 (o_iret Q))))))
def k_X11_of_99 (F : FT) (Q : QT) : KT := o_aload 0 (o_getR 11 0 (o_iload 1 (o_cV 9 m_X9_cornersOf 2 (o_iret Q))))
def k_X11_of_108 (F : FT) (Q : QT) : KT := o_aload 3 (o_getI 2 5 (o_iret Q))
def k_X11_of_113 (F : FT) (Q : QT) : KT := o_aload 0 (o_iload 1 (o_cV 11 m_X11_taxOf 2 (o_iret Q)))
def k_X11_of_119 (F : FT) (Q : QT) : KT := o_aload 3 (o_getI 2 3 (o_iret Q))
def k_X11_of_124 (F : FT) (Q : QT) : KT := o_aload 0 (o_ic (-1000000001) (o_cV 11 m_X11_finding 2 (o_iret Q)))
set_option maxRecDepth 20000 in
theorem r_X11_of {a0 : Nat} {a1 : Int32} {a2 : Int32} {n : Nat} {R : RR} {I : II} {J : JJ} {Q : QT} (hn : n + 0 ≤ 90) (h : ∀ F : FT, al_Wk F → al_Ok F (k_X11_of_0 F Q) 0 → al_Ok F (k_X11_of_15 F Q) 15 → al_Ok F (k_X11_of_72 F Q) 72 → al_Ok F (k_X11_of_77 F Q) 77 → al_Ok F (k_X11_of_82 F Q) 82 → al_Ok F (k_X11_of_87 F Q) 87 → al_Ok F (k_X11_of_99 F Q) 99 → al_Ok F (k_X11_of_108 F Q) 108 → al_Ok F (k_X11_of_113 F Q) 113 → al_Ok F (k_X11_of_119 F Q) 119 → al_Ok F (k_X11_of_124 F Q) 124 → F 0 [some (.ref a0), some (.int a1), some (.int a2), none] [] n R I J) : CT m_X11_of 0 [.ref a0, .int a1, .int a2] n R I J Q :=
  CT.of (by decide) hn (fun _ => rfl) (fun _ => Nat.le_of_ble_eq_true rfl) (fun F p l e s m args below meth c Rm t Q0 C hQ hr hm => h F (fun _ _ _ _ _ _ _ _ => S_wk C)
    (S_aload_n C dX11_of_0 rfl (S_iload_n C dX11_of_1 rfl (S_cV (ci := 11) C ok_X11_isHouse rfl (al_at 369 (by decide +kernel) rfl) (Nat.le_of_ble_eq_true rfl) (Nat.le_of_ble_eq_true rfl) dX11_of_2 (S_ifne (tgt := 15) C dX11_of_5 (by decide) (S_aload_n C dX11_of_8 rfl (S_ldc C dX11_of_9 (al_at 328 (by decide +kernel) rfl) (S_cV (ci := 11) C ok_X11_finding rfl (al_at 329 (by decide +kernel) rfl) (Nat.le_of_ble_eq_true rfl) (Nat.le_of_ble_eq_true rfl) dX11_of_11 (S_iret C hQ hr dX11_of_14))))))))
    (S_aload_n C dX11_of_15 rfl (S_getR (ci := 11) (j := 0) C inG11 rfl (Nat.le_of_ble_eq_true rfl) rfl (al_at 289 (by decide +kernel) rfl) dX11_of_16 (S_getR (ci := 9) (j := 2) C inG9 rfl (Nat.le_of_ble_eq_true rfl) rfl (al_at 178 (by decide +kernel) rfl) dX11_of_19 (S_iload_n C dX11_of_22 rfl (S_aald (ak := 4) C (fun _ _ _ _ _ _ => rfl) (fun _ => rfl) dX11_of_23 (S_astore_n C dX11_of_24 rfl (Nat.le_of_ble_eq_true rfl) (S_iload_n C dX11_of_25 rfl (S_tsw (lo0 := 0) (tg := [72, 77, 82, 87, 99, 108, 113, 119]) (d := 124) C dX11_of_26 rfl (by decide) (by decide +kernel) (by decide) (by decide)))))))))
    (S_aload_n C dX11_of_72 rfl (S_getI (ci := 2) (j := 0) C inG2 rfl (Nat.le_of_ble_eq_true rfl) rfl (al_at 147 (by decide +kernel) rfl) dX11_of_73 (S_iret C hQ hr dX11_of_76)))
    (S_aload_n C dX11_of_77 rfl (S_getI (ci := 2) (j := 1) C inG2 rfl (Nat.le_of_ble_eq_true rfl) rfl (al_at 149 (by decide +kernel) rfl) dX11_of_78 (S_iret C hQ hr dX11_of_81)))
    (S_aload_n C dX11_of_82 rfl (S_getI (ci := 2) (j := 2) C inG2 rfl (Nat.le_of_ble_eq_true rfl) rfl (al_at 151 (by decide +kernel) rfl) dX11_of_83 (S_iret C hQ hr dX11_of_86)))
    (S_aload_n C dX11_of_87 rfl (S_getR (ci := 11) (j := 0) C inG11 rfl (Nat.le_of_ble_eq_true rfl) rfl (al_at 289 (by decide +kernel) rfl) dX11_of_88 (S_bipush C dX11_of_91 (by decide +kernel) (S_iload_n C dX11_of_93 rfl (S_iadd C dX11_of_94 (S_cV (ci := 9) C ok_X9_squaresThatAre rfl (al_at 373 (by decide +kernel) rfl) (Nat.le_of_ble_eq_true rfl) (Nat.le_of_ble_eq_true rfl) dX11_of_95 (S_iret C hQ hr dX11_of_98)))))))
    (S_aload_n C dX11_of_99 rfl (S_getR (ci := 11) (j := 0) C inG11 rfl (Nat.le_of_ble_eq_true rfl) rfl (al_at 289 (by decide +kernel) rfl) dX11_of_100 (S_iload_n C dX11_of_103 rfl (S_cV (ci := 9) C ok_X9_cornersOf rfl (al_at 377 (by decide +kernel) rfl) (Nat.le_of_ble_eq_true rfl) (Nat.le_of_ble_eq_true rfl) dX11_of_104 (S_iret C hQ hr dX11_of_107)))))
    (S_aload_n C dX11_of_108 rfl (S_getI (ci := 2) (j := 5) C inG2 rfl (Nat.le_of_ble_eq_true rfl) rfl (al_at 157 (by decide +kernel) rfl) dX11_of_109 (S_iret C hQ hr dX11_of_112)))
    (S_aload_n C dX11_of_113 rfl (S_iload_n C dX11_of_114 rfl (S_cV (ci := 11) C ok_X11_taxOf rfl (al_at 389 (by decide +kernel) rfl) (Nat.le_of_ble_eq_true rfl) (Nat.le_of_ble_eq_true rfl) dX11_of_115 (S_iret C hQ hr dX11_of_118))))
    (S_aload_n C dX11_of_119 rfl (S_getI (ci := 2) (j := 3) C inG2 rfl (Nat.le_of_ble_eq_true rfl) rfl (al_at 154 (by decide +kernel) rfl) dX11_of_120 (S_iret C hQ hr dX11_of_123)))
    (S_aload_n C dX11_of_124 rfl (S_ldc C dX11_of_125 (al_at 328 (by decide +kernel) rfl) (S_cV (ci := 11) C ok_X11_finding rfl (al_at 329 (by decide +kernel) rfl) (Nat.le_of_ble_eq_true rfl) (Nat.le_of_ble_eq_true rfl) dX11_of_127 (S_iret C hQ hr dX11_of_130)))))
theorem dX11_pays_0 : decode cX11_pays 0 = .ok (.aload_n 0, 1) := by decide +kernel
theorem dX11_pays_1 : decode cX11_pays 1 = .ok (.iload_n 1, 1) := by decide +kernel
theorem dX11_pays_2 : decode cX11_pays 2 = .ok (.invokevirtual 111, 3) := by decide +kernel
theorem dX11_pays_5 : decode cX11_pays 5 = .ok (.ifCond .eq 10, 3) := by decide +kernel
theorem dX11_pays_8 : decode cX11_pays 8 = .ok (.iload_n 2, 1) := by decide +kernel
theorem dX11_pays_9 : decode cX11_pays 9 = .ok (.invokestatic 155, 3) := by decide +kernel
theorem dX11_pays_12 : decode cX11_pays 12 = .ok (.ifCond .ne 10, 3) := by decide +kernel
theorem dX11_pays_15 : decode cX11_pays 15 = .ok (.aload_n 0, 1) := by decide +kernel
theorem dX11_pays_16 : decode cX11_pays 16 = .ok (.ldc 81, 2) := by decide +kernel
theorem dX11_pays_18 : decode cX11_pays 18 = .ok (.invokevirtual 82, 3) := by decide +kernel
theorem dX11_pays_21 : decode cX11_pays 21 = .ok (.ireturn, 1) := by decide +kernel
theorem dX11_pays_22 : decode cX11_pays 22 = .ok (.aload_n 0, 1) := by decide +kernel
theorem dX11_pays_23 : decode cX11_pays 23 = .ok (.getfield 30, 3) := by decide +kernel
theorem dX11_pays_26 : decode cX11_pays 26 = .ok (.getfield 114, 3) := by decide +kernel
theorem dX11_pays_29 : decode cX11_pays 29 = .ok (.iload_n 1, 1) := by decide +kernel
theorem dX11_pays_30 : decode cX11_pays 30 = .ok (.aaload, 1) := by decide +kernel
theorem dX11_pays_31 : decode cX11_pays 31 = .ok (.getfield 123, 3) := by decide +kernel
theorem dX11_pays_34 : decode cX11_pays 34 = .ok (.aload_n 0, 1) := by decide +kernel
theorem dX11_pays_35 : decode cX11_pays 35 = .ok (.getfield 44, 3) := by decide +kernel
theorem dX11_pays_38 : decode cX11_pays 38 = .ok (.iload_n 1, 1) := by decide +kernel
theorem dX11_pays_39 : decode cX11_pays 39 = .ok (.iload_n 2, 1) := by decide +kernel
theorem dX11_pays_40 : decode cX11_pays 40 = .ok (.invokevirtual 173, 3) := by decide +kernel
theorem dX11_pays_43 : decode cX11_pays 43 = .ok (.imul, 1) := by decide +kernel
theorem dX11_pays_44 : decode cX11_pays 44 = .ok (.istore_n 3, 1) := by decide +kernel
theorem dX11_pays_45 : decode cX11_pays 45 = .ok (.iload_n 3, 1) := by decide +kernel
theorem dX11_pays_46 : decode cX11_pays 46 = .ok (.ifCond .gt 10, 3) := by decide +kernel
theorem dX11_pays_49 : decode cX11_pays 49 = .ok (.aload_n 0, 1) := by decide +kernel
theorem dX11_pays_50 : decode cX11_pays 50 = .ok (.ldc 164, 2) := by decide +kernel
theorem dX11_pays_52 : decode cX11_pays 52 = .ok (.invokevirtual 82, 3) := by decide +kernel
theorem dX11_pays_55 : decode cX11_pays 55 = .ok (.ireturn, 1) := by decide +kernel
theorem dX11_pays_56 : decode cX11_pays 56 = .ok (.bipush 40, 2) := by decide +kernel
theorem dX11_pays_58 : decode cX11_pays 58 = .ok (.iload_n 3, 1) := by decide +kernel
theorem dX11_pays_59 : decode cX11_pays 59 = .ok (.iadd, 1) := by decide +kernel
theorem dX11_pays_60 : decode cX11_pays 60 = .ok (.iconst 1, 1) := by decide +kernel
theorem dX11_pays_61 : decode cX11_pays 61 = .ok (.isub, 1) := by decide +kernel
theorem dX11_pays_62 : decode cX11_pays 62 = .ok (.iload_n 3, 1) := by decide +kernel
theorem dX11_pays_63 : decode cX11_pays 63 = .ok (.idiv, 1) := by decide +kernel
theorem dX11_pays_64 : decode cX11_pays 64 = .ok (.ireturn, 1) := by decide +kernel
def k_X11_pays_0 (F : FT) (Q : QT) : KT := o_aload 0 (o_iload 1 (o_cV 11 m_X11_isHouse 2 (o_ifeq (F 15) (o_iload 2 (o_cS m_X11_isPoint 1 (o_ifne (F 22) (F 15)))))))
def k_X11_pays_15 (F : FT) (Q : QT) : KT := o_aload 0 (o_ic (-1000000001) (o_cV 11 m_X11_finding 2 (o_iret Q)))
def k_X11_pays_22 (F : FT) (Q : QT) : KT := o_aload 0 (o_getR 11 0 (o_getR 9 2 (o_iload 1 (o_aald 4 (o_getI 2 1 (o_aload 0 (o_getR 11 3 (o_iload 1 (o_iload 2 (o_cV 8 m_X8_countOf 3 (o_imul (o_istore 3 (o_iload 3 (o_ifgt (F 56) (o_aload 0 (o_ic (-1000000004) (o_cV 11 m_X11_finding 2 (o_iret Q))))))))))))))))))
def k_X11_pays_56 (F : FT) (Q : QT) : KT := o_ic (nI 40) (o_iload 3 (o_iadd (o_ic (nI 1) (o_isub (o_iload 3 (o_idiv (o_iret Q)))))))
set_option maxRecDepth 20000 in
theorem r_X11_pays {a0 : Nat} {a1 : Int32} {a2 : Int32} {n : Nat} {R : RR} {I : II} {J : JJ} {Q : QT} (hn : n + 0 ≤ 90) (h : ∀ F : FT, al_Wk F → al_Ok F (k_X11_pays_0 F Q) 0 → al_Ok F (k_X11_pays_15 F Q) 15 → al_Ok F (k_X11_pays_22 F Q) 22 → al_Ok F (k_X11_pays_56 F Q) 56 → F 0 [some (.ref a0), some (.int a1), some (.int a2), none] [] n R I J) : CT m_X11_pays 0 [.ref a0, .int a1, .int a2] n R I J Q :=
  CT.of (by decide) hn (fun _ => rfl) (fun _ => Nat.le_of_ble_eq_true rfl) (fun F p l e s m args below meth c Rm t Q0 C hQ hr hm => h F (fun _ _ _ _ _ _ _ _ => S_wk C)
    (S_aload_n C dX11_pays_0 rfl (S_iload_n C dX11_pays_1 rfl (S_cV (ci := 11) C ok_X11_isHouse rfl (al_at 369 (by decide +kernel) rfl) (Nat.le_of_ble_eq_true rfl) (Nat.le_of_ble_eq_true rfl) dX11_pays_2 (S_ifeq (tgt := 15) C dX11_pays_5 (by decide) (S_iload_n C dX11_pays_8 rfl (S_cS C ok_X11_isPoint (al_at 505 (by decide +kernel) rfl) (Nat.le_of_ble_eq_true rfl) (Nat.le_of_ble_eq_true rfl) dX11_pays_9 (S_ifne (tgt := 22) C dX11_pays_12 (by decide) (fun _ _ _ _ _ _ h9 => h9))))))))
    (S_aload_n C dX11_pays_15 rfl (S_ldc C dX11_pays_16 (al_at 328 (by decide +kernel) rfl) (S_cV (ci := 11) C ok_X11_finding rfl (al_at 329 (by decide +kernel) rfl) (Nat.le_of_ble_eq_true rfl) (Nat.le_of_ble_eq_true rfl) dX11_pays_18 (S_iret C hQ hr dX11_pays_21))))
    (S_aload_n C dX11_pays_22 rfl (S_getR (ci := 11) (j := 0) C inG11 rfl (Nat.le_of_ble_eq_true rfl) rfl (al_at 289 (by decide +kernel) rfl) dX11_pays_23 (S_getR (ci := 9) (j := 2) C inG9 rfl (Nat.le_of_ble_eq_true rfl) rfl (al_at 178 (by decide +kernel) rfl) dX11_pays_26 (S_iload_n C dX11_pays_29 rfl (S_aald (ak := 4) C (fun _ _ _ _ _ _ => rfl) (fun _ => rfl) dX11_pays_30 (S_getI (ci := 2) (j := 1) C inG2 rfl (Nat.le_of_ble_eq_true rfl) rfl (al_at 149 (by decide +kernel) rfl) dX11_pays_31 (S_aload_n C dX11_pays_34 rfl (S_getR (ci := 11) (j := 3) C inG11 rfl (Nat.le_of_ble_eq_true rfl) rfl (al_at 292 (by decide +kernel) rfl) dX11_pays_35 (S_iload_n C dX11_pays_38 rfl (S_iload_n C dX11_pays_39 rfl (S_cV (ci := 8) C ok_X8_countOf rfl (al_at 533 (by decide +kernel) rfl) (Nat.le_of_ble_eq_true rfl) (Nat.le_of_ble_eq_true rfl) dX11_pays_40 (S_imul C dX11_pays_43 (S_istore_n C dX11_pays_44 rfl (Nat.le_of_ble_eq_true rfl) (S_iload_n C dX11_pays_45 rfl (S_ifgt (tgt := 56) C dX11_pays_46 (by decide) (S_aload_n C dX11_pays_49 rfl (S_ldc C dX11_pays_50 (al_at 517 (by decide +kernel) rfl) (S_cV (ci := 11) C ok_X11_finding rfl (al_at 329 (by decide +kernel) rfl) (Nat.le_of_ble_eq_true rfl) (Nat.le_of_ble_eq_true rfl) dX11_pays_52 (S_iret C hQ hr dX11_pays_55)))))))))))))))))))
    (S_bipush C dX11_pays_56 (by decide +kernel) (S_iload_n C dX11_pays_58 rfl (S_iadd C dX11_pays_59 (S_iconst C dX11_pays_60 (by decide +kernel) (S_isub C dX11_pays_61 (S_iload_n C dX11_pays_62 rfl (S_idiv C dX11_pays_63 (S_iret C hQ hr dX11_pays_64)))))))))
theorem dX11_plot_0 : decode cX11_plot 0 = .ok (.iload_n 1, 1) := by decide +kernel
theorem dX11_plot_1 : decode cX11_plot 1 = .ok (.iconst 1, 1) := by decide +kernel
theorem dX11_plot_2 : decode cX11_plot 2 = .ok (.if_icmp .lt 18, 3) := by decide +kernel
theorem dX11_plot_5 : decode cX11_plot 5 = .ok (.iload_n 1, 1) := by decide +kernel
theorem dX11_plot_6 : decode cX11_plot 6 = .ok (.bipush 12, 2) := by decide +kernel
theorem dX11_plot_8 : decode cX11_plot 8 = .ok (.if_icmp .gt 12, 3) := by decide +kernel
theorem dX11_plot_11 : decode cX11_plot 11 = .ok (.iload_n 2, 1) := by decide +kernel
theorem dX11_plot_12 : decode cX11_plot 12 = .ok (.ifCond .lt 8, 3) := by decide +kernel
theorem dX11_plot_15 : decode cX11_plot 15 = .ok (.iload_n 2, 1) := by decide +kernel
theorem dX11_plot_16 : decode cX11_plot 16 = .ok (.iconst 1, 1) := by decide +kernel
theorem dX11_plot_17 : decode cX11_plot 17 = .ok (.if_icmp .le 10, 3) := by decide +kernel
theorem dX11_plot_20 : decode cX11_plot 20 = .ok (.aload_n 0, 1) := by decide +kernel
theorem dX11_plot_21 : decode cX11_plot 21 = .ok (.ldc 81, 2) := by decide +kernel
theorem dX11_plot_23 : decode cX11_plot 23 = .ok (.invokevirtual 82, 3) := by decide +kernel
theorem dX11_plot_26 : decode cX11_plot 26 = .ok (.ireturn, 1) := by decide +kernel
theorem dX11_plot_27 : decode cX11_plot 27 = .ok (.aload_n 0, 1) := by decide +kernel
theorem dX11_plot_28 : decode cX11_plot 28 = .ok (.getfield 68, 3) := by decide +kernel
theorem dX11_plot_31 : decode cX11_plot 31 = .ok (.iload_n 1, 1) := by decide +kernel
theorem dX11_plot_32 : decode cX11_plot 32 = .ok (.iaload, 1) := by decide +kernel
theorem dX11_plot_33 : decode cX11_plot 33 = .ok (.ifCond .ne 8, 3) := by decide +kernel
theorem dX11_plot_36 : decode cX11_plot 36 = .ok (.aload_n 0, 1) := by decide +kernel
theorem dX11_plot_37 : decode cX11_plot 37 = .ok (.iload_n 1, 1) := by decide +kernel
theorem dX11_plot_38 : decode cX11_plot 38 = .ok (.invokevirtual 189, 3) := by decide +kernel
theorem dX11_plot_41 : decode cX11_plot 41 = .ok (.iload_n 2, 1) := by decide +kernel
theorem dX11_plot_42 : decode cX11_plot 42 = .ok (.ifCond .ne 12, 3) := by decide +kernel
theorem dX11_plot_45 : decode cX11_plot 45 = .ok (.aload_n 0, 1) := by decide +kernel
theorem dX11_plot_46 : decode cX11_plot 46 = .ok (.getfield 68, 3) := by decide +kernel
theorem dX11_plot_49 : decode cX11_plot 49 = .ok (.iload_n 1, 1) := by decide +kernel
theorem dX11_plot_50 : decode cX11_plot 50 = .ok (.iaload, 1) := by decide +kernel
theorem dX11_plot_51 : decode cX11_plot 51 = .ok (.goto 9, 3) := by decide +kernel
theorem dX11_plot_54 : decode cX11_plot 54 = .ok (.aload_n 0, 1) := by decide +kernel
theorem dX11_plot_55 : decode cX11_plot 55 = .ok (.getfield 71, 3) := by decide +kernel
theorem dX11_plot_58 : decode cX11_plot 58 = .ok (.iload_n 1, 1) := by decide +kernel
theorem dX11_plot_59 : decode cX11_plot 59 = .ok (.iaload, 1) := by decide +kernel
theorem dX11_plot_60 : decode cX11_plot 60 = .ok (.ireturn, 1) := by decide +kernel
def k_X11_plot_0 (F : FT) (Q : QT) : KT := o_iload 1 (o_ic (nI 1) (o_iclt (F 20) (o_iload 1 (o_ic (nI 12) (o_icgt (F 20) (o_iload 2 (o_iflt (F 20) (o_iload 2 (o_ic (nI 1) (o_icle (F 27) (F 20)))))))))))
def k_X11_plot_20 (F : FT) (Q : QT) : KT := o_aload 0 (o_ic (-1000000001) (o_cV 11 m_X11_finding 2 (o_iret Q)))
def k_X11_plot_27 (F : FT) (Q : QT) : KT := o_aload 0 (o_getR 11 7 (o_iload 1 (o_iald (o_ifne (F 41) (o_aload 0 (o_iload 1 (o_cV 11 m_X11_findPlot 2 (F 41))))))))
def k_X11_plot_41 (F : FT) (Q : QT) : KT := o_iload 2 (o_ifne (F 54) (o_aload 0 (o_getR 11 7 (o_iload 1 (o_iald (F 60))))))
def k_X11_plot_54 (F : FT) (Q : QT) : KT := o_aload 0 (o_getR 11 8 (o_iload 1 (o_iald (F 60))))
def k_X11_plot_60 (F : FT) (Q : QT) : KT := o_iret Q
set_option maxRecDepth 20000 in
theorem r_X11_plot {a0 : Nat} {a1 : Int32} {a2 : Int32} {n : Nat} {R : RR} {I : II} {J : JJ} {Q : QT} (hn : n + 0 ≤ 90) (h : ∀ F : FT, al_Wk F → al_Ok F (k_X11_plot_0 F Q) 0 → al_Ok F (k_X11_plot_20 F Q) 20 → al_Ok F (k_X11_plot_27 F Q) 27 → al_Ok F (k_X11_plot_41 F Q) 41 → al_Ok F (k_X11_plot_54 F Q) 54 → al_Ok F (k_X11_plot_60 F Q) 60 → F 0 [some (.ref a0), some (.int a1), some (.int a2)] [] n R I J) : CT m_X11_plot 0 [.ref a0, .int a1, .int a2] n R I J Q :=
  CT.of (by decide) hn (fun _ => rfl) (fun _ => Nat.le_of_ble_eq_true rfl) (fun F p l e s m args below meth c Rm t Q0 C hQ hr hm => h F (fun _ _ _ _ _ _ _ _ => S_wk C)
    (S_iload_n C dX11_plot_0 rfl (S_iconst C dX11_plot_1 (by decide +kernel) (S_icmplt (tgt := 20) C dX11_plot_2 (by decide) (S_iload_n C dX11_plot_5 rfl (S_bipush C dX11_plot_6 (by decide +kernel) (S_icmpgt (tgt := 20) C dX11_plot_8 (by decide) (S_iload_n C dX11_plot_11 rfl (S_iflt (tgt := 20) C dX11_plot_12 (by decide) (S_iload_n C dX11_plot_15 rfl (S_iconst C dX11_plot_16 (by decide +kernel) (S_icmple (tgt := 27) C dX11_plot_17 (by decide) (fun _ _ _ _ _ _ h9 => h9))))))))))))
    (S_aload_n C dX11_plot_20 rfl (S_ldc C dX11_plot_21 (al_at 328 (by decide +kernel) rfl) (S_cV (ci := 11) C ok_X11_finding rfl (al_at 329 (by decide +kernel) rfl) (Nat.le_of_ble_eq_true rfl) (Nat.le_of_ble_eq_true rfl) dX11_plot_23 (S_iret C hQ hr dX11_plot_26))))
    (S_aload_n C dX11_plot_27 rfl (S_getR (ci := 11) (j := 7) C inG11 rfl (Nat.le_of_ble_eq_true rfl) rfl (al_at 296 (by decide +kernel) rfl) dX11_plot_28 (S_iload_n C dX11_plot_31 rfl (S_iald C dX11_plot_32 (S_ifne (tgt := 41) C dX11_plot_33 (by decide) (S_aload_n C dX11_plot_36 rfl (S_iload_n C dX11_plot_37 rfl (S_cV (ci := 11) C ok_X11_findPlot rfl (al_at 583 (by decide +kernel) rfl) (Nat.le_of_ble_eq_true rfl) (Nat.le_of_ble_eq_true rfl) dX11_plot_38 (fun _ _ _ _ _ _ h9 => h9)))))))))
    (S_iload_n C dX11_plot_41 rfl (S_ifne (tgt := 54) C dX11_plot_42 (by decide) (S_aload_n C dX11_plot_45 rfl (S_getR (ci := 11) (j := 7) C inG11 rfl (Nat.le_of_ble_eq_true rfl) rfl (al_at 296 (by decide +kernel) rfl) dX11_plot_46 (S_iload_n C dX11_plot_49 rfl (S_iald C dX11_plot_50 (S_goto (tgt := 60) C dX11_plot_51 (by decide))))))))
    (S_aload_n C dX11_plot_54 rfl (S_getR (ci := 11) (j := 8) C inG11 rfl (Nat.le_of_ble_eq_true rfl) rfl (al_at 297 (by decide +kernel) rfl) dX11_plot_55 (S_iload_n C dX11_plot_58 rfl (S_iald C dX11_plot_59 (fun _ _ _ _ _ _ h9 => h9)))))
    (S_iret C hQ hr dX11_plot_60))
theorem dX11_rateFor_0 : decode cX11_rateFor 0 = .ok (.iload_n 1, 1) := by decide +kernel
theorem dX11_rateFor_1 : decode cX11_rateFor 1 = .ok (.ifCond .ge 10, 3) := by decide +kernel
theorem dX11_rateFor_4 : decode cX11_rateFor 4 = .ok (.aload_n 0, 1) := by decide +kernel
theorem dX11_rateFor_5 : decode cX11_rateFor 5 = .ok (.ldc 81, 2) := by decide +kernel
theorem dX11_rateFor_7 : decode cX11_rateFor 7 = .ok (.invokevirtual 82, 3) := by decide +kernel
theorem dX11_rateFor_10 : decode cX11_rateFor 10 = .ok (.ireturn, 1) := by decide +kernel
theorem dX11_rateFor_11 : decode cX11_rateFor 11 = .ok (.iconst 0, 1) := by decide +kernel
theorem dX11_rateFor_12 : decode cX11_rateFor 12 = .ok (.istore_n 2, 1) := by decide +kernel
theorem dX11_rateFor_13 : decode cX11_rateFor 13 = .ok (.iconst 0, 1) := by decide +kernel
theorem dX11_rateFor_14 : decode cX11_rateFor 14 = .ok (.istore_n 3, 1) := by decide +kernel
theorem dX11_rateFor_15 : decode cX11_rateFor 15 = .ok (.iload_n 3, 1) := by decide +kernel
theorem dX11_rateFor_16 : decode cX11_rateFor 16 = .ok (.aload_n 0, 1) := by decide +kernel
theorem dX11_rateFor_17 : decode cX11_rateFor 17 = .ok (.getfield 30, 3) := by decide +kernel
theorem dX11_rateFor_20 : decode cX11_rateFor 20 = .ok (.getfield 102, 3) := by decide +kernel
theorem dX11_rateFor_23 : decode cX11_rateFor 23 = .ok (.if_icmp .ge 20, 3) := by decide +kernel
theorem dX11_rateFor_26 : decode cX11_rateFor 26 = .ok (.iload_n 2, 1) := by decide +kernel
theorem dX11_rateFor_27 : decode cX11_rateFor 27 = .ok (.aload_n 0, 1) := by decide +kernel
theorem dX11_rateFor_28 : decode cX11_rateFor 28 = .ok (.getfield 44, 3) := by decide +kernel
theorem dX11_rateFor_31 : decode cX11_rateFor 31 = .ok (.iload_n 3, 1) := by decide +kernel
theorem dX11_rateFor_32 : decode cX11_rateFor 32 = .ok (.invokevirtual 201, 3) := by decide +kernel
theorem dX11_rateFor_35 : decode cX11_rateFor 35 = .ok (.iadd, 1) := by decide +kernel
theorem dX11_rateFor_36 : decode cX11_rateFor 36 = .ok (.istore_n 2, 1) := by decide +kernel
theorem dX11_rateFor_37 : decode cX11_rateFor 37 = .ok (.iinc 3 1, 3) := by decide +kernel
theorem dX11_rateFor_40 : decode cX11_rateFor 40 = .ok (.goto (-25), 3) := by decide +kernel
theorem dX11_rateFor_43 : decode cX11_rateFor 43 = .ok (.iconst 1, 1) := by decide +kernel
theorem dX11_rateFor_44 : decode cX11_rateFor 44 = .ok (.istore_n 3, 1) := by decide +kernel
theorem dX11_rateFor_45 : decode cX11_rateFor 45 = .ok (.iload_n 3, 1) := by decide +kernel
theorem dX11_rateFor_46 : decode cX11_rateFor 46 = .ok (.bipush 99, 2) := by decide +kernel
theorem dX11_rateFor_48 : decode cX11_rateFor 48 = .ok (.if_icmp .gt 18, 3) := by decide +kernel
theorem dX11_rateFor_51 : decode cX11_rateFor 51 = .ok (.iload_n 3, 1) := by decide +kernel
theorem dX11_rateFor_52 : decode cX11_rateFor 52 = .ok (.iload_n 2, 1) := by decide +kernel
theorem dX11_rateFor_53 : decode cX11_rateFor 53 = .ok (.imul, 1) := by decide +kernel
theorem dX11_rateFor_54 : decode cX11_rateFor 54 = .ok (.iload_n 1, 1) := by decide +kernel
theorem dX11_rateFor_55 : decode cX11_rateFor 55 = .ok (.if_icmp .lt 5, 3) := by decide +kernel
theorem dX11_rateFor_58 : decode cX11_rateFor 58 = .ok (.iload_n 3, 1) := by decide +kernel
theorem dX11_rateFor_59 : decode cX11_rateFor 59 = .ok (.ireturn, 1) := by decide +kernel
theorem dX11_rateFor_60 : decode cX11_rateFor 60 = .ok (.iinc 3 1, 3) := by decide +kernel
theorem dX11_rateFor_63 : decode cX11_rateFor 63 = .ok (.goto (-18), 3) := by decide +kernel
theorem dX11_rateFor_66 : decode cX11_rateFor 66 = .ok (.aload_n 0, 1) := by decide +kernel
theorem dX11_rateFor_67 : decode cX11_rateFor 67 = .ok (.ldc 164, 2) := by decide +kernel
theorem dX11_rateFor_69 : decode cX11_rateFor 69 = .ok (.invokevirtual 82, 3) := by decide +kernel
theorem dX11_rateFor_72 : decode cX11_rateFor 72 = .ok (.ireturn, 1) := by decide +kernel
def k_X11_rateFor_0 (F : FT) (Q : QT) : KT := o_iload 1 (o_ifge (F 11) (o_aload 0 (o_ic (-1000000001) (o_cV 11 m_X11_finding 2 (o_iret Q)))))
def k_X11_rateFor_11 (F : FT) (Q : QT) : KT := o_ic (nI 0) (o_istore 2 (o_ic (nI 0) (o_istore 3 (F 15))))
def k_X11_rateFor_15 (F : FT) (Q : QT) : KT := o_iload 3 (o_aload 0 (o_getR 11 0 (o_getI 9 3 (o_icge (F 43) (o_iload 2 (o_aload 0 (o_getR 11 3 (o_iload 3 (o_cV 8 m_X8_countsOf 2 (o_iadd (o_istore 2 (o_iinc 3 (nI 1) (F 15)))))))))))))
def k_X11_rateFor_43 (F : FT) (Q : QT) : KT := o_ic (nI 1) (o_istore 3 (F 45))
def k_X11_rateFor_45 (F : FT) (Q : QT) : KT := o_iload 3 (o_ic (nI 99) (o_icgt (F 66) (o_iload 3 (o_iload 2 (o_imul (o_iload 1 (o_iclt (F 60) (o_iload 3 (o_iret Q)))))))))
def k_X11_rateFor_60 (F : FT) (Q : QT) : KT := o_iinc 3 (nI 1) (F 45)
def k_X11_rateFor_66 (F : FT) (Q : QT) : KT := o_aload 0 (o_ic (-1000000004) (o_cV 11 m_X11_finding 2 (o_iret Q)))
set_option maxRecDepth 20000 in
theorem r_X11_rateFor {a0 : Nat} {a1 : Int32} {n : Nat} {R : RR} {I : II} {J : JJ} {Q : QT} (hn : n + 0 ≤ 90) (h : ∀ F : FT, al_Wk F → al_Ok F (k_X11_rateFor_0 F Q) 0 → al_Ok F (k_X11_rateFor_11 F Q) 11 → al_Ok F (k_X11_rateFor_15 F Q) 15 → al_Ok F (k_X11_rateFor_43 F Q) 43 → al_Ok F (k_X11_rateFor_45 F Q) 45 → al_Ok F (k_X11_rateFor_60 F Q) 60 → al_Ok F (k_X11_rateFor_66 F Q) 66 → F 0 [some (.ref a0), some (.int a1), none, none] [] n R I J) : CT m_X11_rateFor 0 [.ref a0, .int a1] n R I J Q :=
  CT.of (by decide) hn (fun _ => rfl) (fun _ => Nat.le_of_ble_eq_true rfl) (fun F p l e s m args below meth c Rm t Q0 C hQ hr hm => h F (fun _ _ _ _ _ _ _ _ => S_wk C)
    (S_iload_n C dX11_rateFor_0 rfl (S_ifge (tgt := 11) C dX11_rateFor_1 (by decide) (S_aload_n C dX11_rateFor_4 rfl (S_ldc C dX11_rateFor_5 (al_at 328 (by decide +kernel) rfl) (S_cV (ci := 11) C ok_X11_finding rfl (al_at 329 (by decide +kernel) rfl) (Nat.le_of_ble_eq_true rfl) (Nat.le_of_ble_eq_true rfl) dX11_rateFor_7 (S_iret C hQ hr dX11_rateFor_10))))))
    (S_iconst C dX11_rateFor_11 (by decide +kernel) (S_istore_n C dX11_rateFor_12 rfl (Nat.le_of_ble_eq_true rfl) (S_iconst C dX11_rateFor_13 (by decide +kernel) (S_istore_n C dX11_rateFor_14 rfl (Nat.le_of_ble_eq_true rfl) (fun _ _ _ _ _ _ h9 => h9)))))
    (S_iload_n C dX11_rateFor_15 rfl (S_aload_n C dX11_rateFor_16 rfl (S_getR (ci := 11) (j := 0) C inG11 rfl (Nat.le_of_ble_eq_true rfl) rfl (al_at 289 (by decide +kernel) rfl) dX11_rateFor_17 (S_getI (ci := 9) (j := 3) C inG9 rfl (Nat.le_of_ble_eq_true rfl) rfl (al_at 181 (by decide +kernel) rfl) dX11_rateFor_20 (S_icmpge (tgt := 43) C dX11_rateFor_23 (by decide) (S_iload_n C dX11_rateFor_26 rfl (S_aload_n C dX11_rateFor_27 rfl (S_getR (ci := 11) (j := 3) C inG11 rfl (Nat.le_of_ble_eq_true rfl) rfl (al_at 292 (by decide +kernel) rfl) dX11_rateFor_28 (S_iload_n C dX11_rateFor_31 rfl (S_cV (ci := 8) C ok_X8_countsOf rfl (al_at 393 (by decide +kernel) rfl) (Nat.le_of_ble_eq_true rfl) (Nat.le_of_ble_eq_true rfl) dX11_rateFor_32 (S_iadd C dX11_rateFor_35 (S_istore_n C dX11_rateFor_36 rfl (Nat.le_of_ble_eq_true rfl) (S_iinc C dX11_rateFor_37 (by decide +kernel) (Nat.le_of_ble_eq_true rfl) (S_goto (tgt := 15) C dX11_rateFor_40 (by decide)))))))))))))))
    (S_iconst C dX11_rateFor_43 (by decide +kernel) (S_istore_n C dX11_rateFor_44 rfl (Nat.le_of_ble_eq_true rfl) (fun _ _ _ _ _ _ h9 => h9)))
    (S_iload_n C dX11_rateFor_45 rfl (S_bipush C dX11_rateFor_46 (by decide +kernel) (S_icmpgt (tgt := 66) C dX11_rateFor_48 (by decide) (S_iload_n C dX11_rateFor_51 rfl (S_iload_n C dX11_rateFor_52 rfl (S_imul C dX11_rateFor_53 (S_iload_n C dX11_rateFor_54 rfl (S_icmplt (tgt := 60) C dX11_rateFor_55 (by decide) (S_iload_n C dX11_rateFor_58 rfl (S_iret C hQ hr dX11_rateFor_59))))))))))
    (S_iinc C dX11_rateFor_60 (by decide +kernel) (Nat.le_of_ble_eq_true rfl) (S_goto (tgt := 45) C dX11_rateFor_63 (by decide)))
    (S_aload_n C dX11_rateFor_66 rfl (S_ldc C dX11_rateFor_67 (al_at 517 (by decide +kernel) rfl) (S_cV (ci := 11) C ok_X11_finding rfl (al_at 329 (by decide +kernel) rfl) (Nat.le_of_ble_eq_true rfl) (Nat.le_of_ble_eq_true rfl) dX11_rateFor_69 (S_iret C hQ hr dX11_rateFor_72)))))
theorem dX11_read_0 : decode cX11_read 0 = .ok (.iload_n 1, 1) := by decide +kernel
theorem dX11_read_1 : decode cX11_read 1 = .ok (.invokestatic 220, 3) := by decide +kernel
theorem dX11_read_4 : decode cX11_read 4 = .ok (.ifCond .ne 10, 3) := by decide +kernel
theorem dX11_read_7 : decode cX11_read 7 = .ok (.aload_n 0, 1) := by decide +kernel
theorem dX11_read_8 : decode cX11_read 8 = .ok (.ldc 81, 2) := by decide +kernel
theorem dX11_read_10 : decode cX11_read 10 = .ok (.invokevirtual 82, 3) := by decide +kernel
theorem dX11_read_13 : decode cX11_read 13 = .ok (.ireturn, 1) := by decide +kernel
theorem dX11_read_14 : decode cX11_read 14 = .ok (.aload_n 0, 1) := by decide +kernel
theorem dX11_read_15 : decode cX11_read 15 = .ok (.getfield 59, 3) := by decide +kernel
theorem dX11_read_18 : decode cX11_read 18 = .ok (.iload_n 1, 1) := by decide +kernel
theorem dX11_read_19 : decode cX11_read 19 = .ok (.aaload, 1) := by decide +kernel
theorem dX11_read_20 : decode cX11_read 20 = .ok (.astore_n 3, 1) := by decide +kernel
theorem dX11_read_21 : decode cX11_read 21 = .ok (.aload_n 3, 1) := by decide +kernel
theorem dX11_read_22 : decode cX11_read 22 = .ok (.invokevirtual 230, 3) := by decide +kernel
theorem dX11_read_25 : decode cX11_read 25 = .ok (.ifCond .eq 10, 3) := by decide +kernel
theorem dX11_read_28 : decode cX11_read 28 = .ok (.aload_n 0, 1) := by decide +kernel
theorem dX11_read_29 : decode cX11_read 29 = .ok (.ldc 234, 2) := by decide +kernel
theorem dX11_read_31 : decode cX11_read 31 = .ok (.invokevirtual 82, 3) := by decide +kernel
theorem dX11_read_34 : decode cX11_read 34 = .ok (.ireturn, 1) := by decide +kernel
theorem dX11_read_35 : decode cX11_read 35 = .ok (.aload_n 0, 1) := by decide +kernel
theorem dX11_read_36 : decode cX11_read 36 = .ok (.iload_n 2, 1) := by decide +kernel
theorem dX11_read_37 : decode cX11_read 37 = .ok (.invokevirtual 111, 3) := by decide +kernel
theorem dX11_read_40 : decode cX11_read 40 = .ok (.ifCond .ne 10, 3) := by decide +kernel
theorem dX11_read_43 : decode cX11_read 43 = .ok (.aload_n 0, 1) := by decide +kernel
theorem dX11_read_44 : decode cX11_read 44 = .ok (.ldc 81, 2) := by decide +kernel
theorem dX11_read_46 : decode cX11_read 46 = .ok (.invokevirtual 82, 3) := by decide +kernel
theorem dX11_read_49 : decode cX11_read 49 = .ok (.ireturn, 1) := by decide +kernel
theorem dX11_read_50 : decode cX11_read 50 = .ok (.aload_n 0, 1) := by decide +kernel
theorem dX11_read_51 : decode cX11_read 51 = .ok (.getfield 30, 3) := by decide +kernel
theorem dX11_read_54 : decode cX11_read 54 = .ok (.iload_n 2, 1) := by decide +kernel
theorem dX11_read_55 : decode cX11_read 55 = .ok (.iconst (-1), 1) := by decide +kernel
theorem dX11_read_56 : decode cX11_read 56 = .ok (.invokevirtual 161, 3) := by decide +kernel
theorem dX11_read_59 : decode cX11_read 59 = .ok (.istore 4, 2) := by decide +kernel
theorem dX11_read_61 : decode cX11_read 61 = .ok (.iconst 0, 1) := by decide +kernel
theorem dX11_read_62 : decode cX11_read 62 = .ok (.istore 5, 2) := by decide +kernel
theorem dX11_read_64 : decode cX11_read 64 = .ok (.iload 5, 2) := by decide +kernel
theorem dX11_read_66 : decode cX11_read 66 = .ok (.aload_n 3, 1) := by decide +kernel
theorem dX11_read_67 : decode cX11_read 67 = .ok (.getfield 227, 3) := by decide +kernel
theorem dX11_read_70 : decode cX11_read 70 = .ok (.if_icmp .ge 47, 3) := by decide +kernel
theorem dX11_read_73 : decode cX11_read 73 = .ok (.iload 4, 2) := by decide +kernel
theorem dX11_read_75 : decode cX11_read 75 = .ok (.bipush 81, 2) := by decide +kernel
theorem dX11_read_77 : decode cX11_read 77 = .ok (.if_icmp .ge 17, 3) := by decide +kernel
theorem dX11_read_80 : decode cX11_read 80 = .ok (.aload_n 3, 1) := by decide +kernel
theorem dX11_read_81 : decode cX11_read 81 = .ok (.getfield 235, 3) := by decide +kernel
theorem dX11_read_84 : decode cX11_read 84 = .ok (.iload 5, 2) := by decide +kernel
theorem dX11_read_86 : decode cX11_read 86 = .ok (.laload, 1) := by decide +kernel
theorem dX11_read_87 : decode cX11_read 87 = .ok (.iload 4, 2) := by decide +kernel
theorem dX11_read_89 : decode cX11_read 89 = .ok (.i2l, 1) := by decide +kernel
theorem dX11_read_90 : decode cX11_read 90 = .ok (.lcmp, 1) := by decide +kernel
theorem dX11_read_91 : decode cX11_read 91 = .ok (.ifCond .eq 8, 3) := by decide +kernel
theorem dX11_read_94 : decode cX11_read 94 = .ok (.iconst 1, 1) := by decide +kernel
theorem dX11_read_95 : decode cX11_read 95 = .ok (.iload 5, 2) := by decide +kernel
theorem dX11_read_97 : decode cX11_read 97 = .ok (.iadd, 1) := by decide +kernel
theorem dX11_read_98 : decode cX11_read 98 = .ok (.ireturn, 1) := by decide +kernel
theorem dX11_read_99 : decode cX11_read 99 = .ok (.aload_n 0, 1) := by decide +kernel
theorem dX11_read_100 : decode cX11_read 100 = .ok (.getfield 30, 3) := by decide +kernel
theorem dX11_read_103 : decode cX11_read 103 = .ok (.iload_n 2, 1) := by decide +kernel
theorem dX11_read_104 : decode cX11_read 104 = .ok (.iload 4, 2) := by decide +kernel
theorem dX11_read_106 : decode cX11_read 106 = .ok (.invokevirtual 161, 3) := by decide +kernel
theorem dX11_read_109 : decode cX11_read 109 = .ok (.istore 4, 2) := by decide +kernel
theorem dX11_read_111 : decode cX11_read 111 = .ok (.iinc 5 1, 3) := by decide +kernel
theorem dX11_read_114 : decode cX11_read 114 = .ok (.goto (-50), 3) := by decide +kernel
theorem dX11_read_117 : decode cX11_read 117 = .ok (.iload 4, 2) := by decide +kernel
theorem dX11_read_119 : decode cX11_read 119 = .ok (.bipush 81, 2) := by decide +kernel
theorem dX11_read_121 : decode cX11_read 121 = .ok (.if_icmp .ge 12, 3) := by decide +kernel
theorem dX11_read_124 : decode cX11_read 124 = .ok (.iconst 1, 1) := by decide +kernel
theorem dX11_read_125 : decode cX11_read 125 = .ok (.aload_n 3, 1) := by decide +kernel
theorem dX11_read_126 : decode cX11_read 126 = .ok (.getfield 227, 3) := by decide +kernel
theorem dX11_read_129 : decode cX11_read 129 = .ok (.iadd, 1) := by decide +kernel
theorem dX11_read_130 : decode cX11_read 130 = .ok (.goto 4, 3) := by decide +kernel
theorem dX11_read_133 : decode cX11_read 133 = .ok (.iconst 0, 1) := by decide +kernel
theorem dX11_read_134 : decode cX11_read 134 = .ok (.ireturn, 1) := by decide +kernel
def k_X11_read_0 (F : FT) (Q : QT) : KT := o_iload 1 (o_cS m_X11_isSheet 1 (o_ifne (F 14) (o_aload 0 (o_ic (-1000000001) (o_cV 11 m_X11_finding 2 (o_iret Q))))))
def k_X11_read_14 (F : FT) (Q : QT) : KT := o_aload 0 (o_getR 11 5 (o_iload 1 (o_aald 5 (o_astore 3 (o_aload 3 (o_cV 7 m_X7_isMissing 1 (o_ifeq (F 35) (o_aload 0 (o_ic (-1000000006) (o_cV 11 m_X11_finding 2 (o_iret Q)))))))))))
def k_X11_read_35 (F : FT) (Q : QT) : KT := o_aload 0 (o_iload 2 (o_cV 11 m_X11_isHouse 2 (o_ifne (F 50) (o_aload 0 (o_ic (-1000000001) (o_cV 11 m_X11_finding 2 (o_iret Q)))))))
def k_X11_read_50 (F : FT) (Q : QT) : KT := o_aload 0 (o_getR 11 0 (o_iload 2 (o_ic (-1) (o_cV 9 m_X9_cornerBehind 3 (o_istore 4 (o_ic (nI 0) (o_istore 5 (F 64))))))))
def k_X11_read_64 (F : FT) (Q : QT) : KT := o_iload 5 (o_aload 3 (o_getI 7 1 (o_icge (F 117) (o_iload 4 (o_ic (nI 81) (o_icge (F 94) (o_aload 3 (o_getR 7 2 (o_iload 5 (o_lald (o_iload 4 (o_i2l (o_lcmp (o_ifeq (F 99) (F 94)))))))))))))))
def k_X11_read_94 (F : FT) (Q : QT) : KT := o_ic (nI 1) (o_iload 5 (o_iadd (o_iret Q)))
def k_X11_read_99 (F : FT) (Q : QT) : KT := o_aload 0 (o_getR 11 0 (o_iload 2 (o_iload 4 (o_cV 9 m_X9_cornerBehind 3 (o_istore 4 (o_iinc 5 (nI 1) (F 64)))))))
def k_X11_read_117 (F : FT) (Q : QT) : KT := o_iload 4 (o_ic (nI 81) (o_icge (F 133) (o_ic (nI 1) (o_aload 3 (o_getI 7 1 (o_iadd (F 134)))))))
def k_X11_read_133 (F : FT) (Q : QT) : KT := o_ic (nI 0) (F 134)
def k_X11_read_134 (F : FT) (Q : QT) : KT := o_iret Q
set_option maxRecDepth 20000 in
theorem r_X11_read {a0 : Nat} {a1 : Int32} {a2 : Int32} {n : Nat} {R : RR} {I : II} {J : JJ} {Q : QT} (hn : n + 0 ≤ 90) (h : ∀ F : FT, al_Wk F → al_Ok F (k_X11_read_0 F Q) 0 → al_Ok F (k_X11_read_14 F Q) 14 → al_Ok F (k_X11_read_35 F Q) 35 → al_Ok F (k_X11_read_50 F Q) 50 → al_Ok F (k_X11_read_64 F Q) 64 → al_Ok F (k_X11_read_94 F Q) 94 → al_Ok F (k_X11_read_99 F Q) 99 → al_Ok F (k_X11_read_117 F Q) 117 → al_Ok F (k_X11_read_133 F Q) 133 → al_Ok F (k_X11_read_134 F Q) 134 → F 0 [some (.ref a0), some (.int a1), some (.int a2), none, none, none] [] n R I J) : CT m_X11_read 0 [.ref a0, .int a1, .int a2] n R I J Q :=
  CT.of (by decide) hn (fun _ => rfl) (fun _ => Nat.le_of_ble_eq_true rfl) (fun F p l e s m args below meth c Rm t Q0 C hQ hr hm => h F (fun _ _ _ _ _ _ _ _ => S_wk C)
    (S_iload_n C dX11_read_0 rfl (S_cS C ok_X11_isSheet (al_at 835 (by decide +kernel) rfl) (Nat.le_of_ble_eq_true rfl) (Nat.le_of_ble_eq_true rfl) dX11_read_1 (S_ifne (tgt := 14) C dX11_read_4 (by decide) (S_aload_n C dX11_read_7 rfl (S_ldc C dX11_read_8 (al_at 328 (by decide +kernel) rfl) (S_cV (ci := 11) C ok_X11_finding rfl (al_at 329 (by decide +kernel) rfl) (Nat.le_of_ble_eq_true rfl) (Nat.le_of_ble_eq_true rfl) dX11_read_10 (S_iret C hQ hr dX11_read_13)))))))
    (S_aload_n C dX11_read_14 rfl (S_getR (ci := 11) (j := 5) C inG11 rfl (Nat.le_of_ble_eq_true rfl) rfl (al_at 294 (by decide +kernel) rfl) dX11_read_15 (S_iload_n C dX11_read_18 rfl (S_aald (ak := 5) C (fun _ _ _ _ _ _ => rfl) (fun _ => rfl) dX11_read_19 (S_astore_n C dX11_read_20 rfl (Nat.le_of_ble_eq_true rfl) (S_aload_n C dX11_read_21 rfl (S_cV (ci := 7) C ok_X7_isMissing rfl (al_at 848 (by decide +kernel) rfl) (Nat.le_of_ble_eq_true rfl) (Nat.le_of_ble_eq_true rfl) dX11_read_22 (S_ifeq (tgt := 35) C dX11_read_25 (by decide) (S_aload_n C dX11_read_28 rfl (S_ldc C dX11_read_29 (al_at 852 (by decide +kernel) rfl) (S_cV (ci := 11) C ok_X11_finding rfl (al_at 329 (by decide +kernel) rfl) (Nat.le_of_ble_eq_true rfl) (Nat.le_of_ble_eq_true rfl) dX11_read_31 (S_iret C hQ hr dX11_read_34))))))))))))
    (S_aload_n C dX11_read_35 rfl (S_iload_n C dX11_read_36 rfl (S_cV (ci := 11) C ok_X11_isHouse rfl (al_at 369 (by decide +kernel) rfl) (Nat.le_of_ble_eq_true rfl) (Nat.le_of_ble_eq_true rfl) dX11_read_37 (S_ifne (tgt := 50) C dX11_read_40 (by decide) (S_aload_n C dX11_read_43 rfl (S_ldc C dX11_read_44 (al_at 328 (by decide +kernel) rfl) (S_cV (ci := 11) C ok_X11_finding rfl (al_at 329 (by decide +kernel) rfl) (Nat.le_of_ble_eq_true rfl) (Nat.le_of_ble_eq_true rfl) dX11_read_46 (S_iret C hQ hr dX11_read_49))))))))
    (S_aload_n C dX11_read_50 rfl (S_getR (ci := 11) (j := 0) C inG11 rfl (Nat.le_of_ble_eq_true rfl) rfl (al_at 289 (by decide +kernel) rfl) dX11_read_51 (S_iload_n C dX11_read_54 rfl (S_iconst C dX11_read_55 (by decide +kernel) (S_cV (ci := 9) C ok_X9_cornerBehind rfl (al_at 513 (by decide +kernel) rfl) (Nat.le_of_ble_eq_true rfl) (Nat.le_of_ble_eq_true rfl) dX11_read_56 (S_istore C dX11_read_59 (Nat.le_of_ble_eq_true rfl) (S_iconst C dX11_read_61 (by decide +kernel) (S_istore C dX11_read_62 (Nat.le_of_ble_eq_true rfl) (fun _ _ _ _ _ _ h9 => h9)))))))))
    (S_iload C dX11_read_64 (S_aload_n C dX11_read_66 rfl (S_getI (ci := 7) (j := 1) C inG7 rfl (Nat.le_of_ble_eq_true rfl) rfl (al_at 279 (by decide +kernel) rfl) dX11_read_67 (S_icmpge (tgt := 117) C dX11_read_70 (by decide) (S_iload C dX11_read_73 (S_bipush C dX11_read_75 (by decide +kernel) (S_icmpge (tgt := 94) C dX11_read_77 (by decide) (S_aload_n C dX11_read_80 rfl (S_getR (ci := 7) (j := 2) C inG7 rfl (Nat.le_of_ble_eq_true rfl) rfl (al_at 281 (by decide +kernel) rfl) dX11_read_81 (S_iload C dX11_read_84 (S_lald C dX11_read_86 (S_iload C dX11_read_87 (S_i2l C dX11_read_89 (S_lcmp C dX11_read_90 (S_ifeq (tgt := 99) C dX11_read_91 (by decide) (fun _ _ _ _ _ _ h9 => h9))))))))))))))))
    (S_iconst C dX11_read_94 (by decide +kernel) (S_iload C dX11_read_95 (S_iadd C dX11_read_97 (S_iret C hQ hr dX11_read_98))))
    (S_aload_n C dX11_read_99 rfl (S_getR (ci := 11) (j := 0) C inG11 rfl (Nat.le_of_ble_eq_true rfl) rfl (al_at 289 (by decide +kernel) rfl) dX11_read_100 (S_iload_n C dX11_read_103 rfl (S_iload C dX11_read_104 (S_cV (ci := 9) C ok_X9_cornerBehind rfl (al_at 513 (by decide +kernel) rfl) (Nat.le_of_ble_eq_true rfl) (Nat.le_of_ble_eq_true rfl) dX11_read_106 (S_istore C dX11_read_109 (Nat.le_of_ble_eq_true rfl) (S_iinc C dX11_read_111 (by decide +kernel) (Nat.le_of_ble_eq_true rfl) (S_goto (tgt := 64) C dX11_read_114 (by decide)))))))))
    (S_iload C dX11_read_117 (S_bipush C dX11_read_119 (by decide +kernel) (S_icmpge (tgt := 133) C dX11_read_121 (by decide) (S_iconst C dX11_read_124 (by decide +kernel) (S_aload_n C dX11_read_125 rfl (S_getI (ci := 7) (j := 1) C inG7 rfl (Nat.le_of_ble_eq_true rfl) rfl (al_at 279 (by decide +kernel) rfl) dX11_read_126 (S_iadd C dX11_read_129 (S_goto (tgt := 134) C dX11_read_130 (by decide)))))))))
    (S_iconst C dX11_read_133 (by decide +kernel) (fun _ _ _ _ _ _ h9 => h9))
    (S_iret C hQ hr dX11_read_134))
theorem dX11_round_0 : decode cX11_round 0 = .ok (.aload_n 0, 1) := by decide +kernel
theorem dX11_round_1 : decode cX11_round 1 = .ok (.iload_n 1, 1) := by decide +kernel
theorem dX11_round_2 : decode cX11_round 2 = .ok (.invokevirtual 111, 3) := by decide +kernel
theorem dX11_round_5 : decode cX11_round 5 = .ok (.ifCond .eq 10, 3) := by decide +kernel
theorem dX11_round_8 : decode cX11_round 8 = .ok (.iload_n 2, 1) := by decide +kernel
theorem dX11_round_9 : decode cX11_round 9 = .ok (.invokestatic 155, 3) := by decide +kernel
theorem dX11_round_12 : decode cX11_round 12 = .ok (.ifCond .ne 10, 3) := by decide +kernel
theorem dX11_round_15 : decode cX11_round 15 = .ok (.aload_n 0, 1) := by decide +kernel
theorem dX11_round_16 : decode cX11_round 16 = .ok (.ldc 81, 2) := by decide +kernel
theorem dX11_round_18 : decode cX11_round 18 = .ok (.invokevirtual 82, 3) := by decide +kernel
theorem dX11_round_21 : decode cX11_round 21 = .ok (.ireturn, 1) := by decide +kernel
theorem dX11_round_22 : decode cX11_round 22 = .ok (.aload_n 0, 1) := by decide +kernel
theorem dX11_round_23 : decode cX11_round 23 = .ok (.getfield 30, 3) := by decide +kernel
theorem dX11_round_26 : decode cX11_round 26 = .ok (.iload_n 1, 1) := by decide +kernel
theorem dX11_round_27 : decode cX11_round 27 = .ok (.iload_n 2, 1) := by decide +kernel
theorem dX11_round_28 : decode cX11_round 28 = .ok (.invokevirtual 158, 3) := by decide +kernel
theorem dX11_round_31 : decode cX11_round 31 = .ok (.ifCond .ne 10, 3) := by decide +kernel
theorem dX11_round_34 : decode cX11_round 34 = .ok (.aload_n 0, 1) := by decide +kernel
theorem dX11_round_35 : decode cX11_round 35 = .ok (.ldc 164, 2) := by decide +kernel
theorem dX11_round_37 : decode cX11_round 37 = .ok (.invokevirtual 82, 3) := by decide +kernel
theorem dX11_round_40 : decode cX11_round 40 = .ok (.ireturn, 1) := by decide +kernel
theorem dX11_round_41 : decode cX11_round 41 = .ok (.aload_n 0, 1) := by decide +kernel
theorem dX11_round_42 : decode cX11_round 42 = .ok (.getfield 30, 3) := by decide +kernel
theorem dX11_round_45 : decode cX11_round 45 = .ok (.getfield 114, 3) := by decide +kernel
theorem dX11_round_48 : decode cX11_round 48 = .ok (.iload_n 1, 1) := by decide +kernel
theorem dX11_round_49 : decode cX11_round 49 = .ok (.aaload, 1) := by decide +kernel
theorem dX11_round_50 : decode cX11_round 50 = .ok (.astore_n 3, 1) := by decide +kernel
theorem dX11_round_51 : decode cX11_round 51 = .ok (.aload_n 3, 1) := by decide +kernel
theorem dX11_round_52 : decode cX11_round 52 = .ok (.iload_n 2, 1) := by decide +kernel
theorem dX11_round_53 : decode cX11_round 53 = .ok (.invokevirtual 179, 3) := by decide +kernel
theorem dX11_round_56 : decode cX11_round 56 = .ok (.ifCond .eq 10, 3) := by decide +kernel
theorem dX11_round_59 : decode cX11_round 59 = .ok (.aload_n 0, 1) := by decide +kernel
theorem dX11_round_60 : decode cX11_round 60 = .ok (.ldc 165, 2) := by decide +kernel
theorem dX11_round_62 : decode cX11_round 62 = .ok (.invokevirtual 82, 3) := by decide +kernel
theorem dX11_round_65 : decode cX11_round 65 = .ok (.ireturn, 1) := by decide +kernel
theorem dX11_round_66 : decode cX11_round 66 = .ok (.aload_n 3, 1) := by decide +kernel
theorem dX11_round_67 : decode cX11_round 67 = .ok (.getfield 135, 3) := by decide +kernel
theorem dX11_round_70 : decode cX11_round 70 = .ok (.bipush 8, 2) := by decide +kernel
theorem dX11_round_72 : decode cX11_round 72 = .ok (.if_icmp .lt 10, 3) := by decide +kernel
theorem dX11_round_75 : decode cX11_round 75 = .ok (.aload_n 0, 1) := by decide +kernel
theorem dX11_round_76 : decode cX11_round 76 = .ok (.ldc 106, 2) := by decide +kernel
theorem dX11_round_78 : decode cX11_round 78 = .ok (.invokevirtual 82, 3) := by decide +kernel
theorem dX11_round_81 : decode cX11_round 81 = .ok (.ireturn, 1) := by decide +kernel
theorem dX11_round_82 : decode cX11_round 82 = .ok (.aload_n 3, 1) := by decide +kernel
theorem dX11_round_83 : decode cX11_round 83 = .ok (.iload_n 2, 1) := by decide +kernel
theorem dX11_round_84 : decode cX11_round 84 = .ok (.invokevirtual 182, 3) := by decide +kernel
theorem dX11_round_87 : decode cX11_round 87 = .ok (.aload_n 0, 1) := by decide +kernel
theorem dX11_round_88 : decode cX11_round 88 = .ok (.iload_n 1, 1) := by decide +kernel
theorem dX11_round_89 : decode cX11_round 89 = .ok (.invokevirtual 138, 3) := by decide +kernel
theorem dX11_round_92 : decode cX11_round 92 = .ok (.ireturn, 1) := by decide +kernel
def k_X11_round_0 (F : FT) (Q : QT) : KT := o_aload 0 (o_iload 1 (o_cV 11 m_X11_isHouse 2 (o_ifeq (F 15) (o_iload 2 (o_cS m_X11_isPoint 1 (o_ifne (F 22) (F 15)))))))
def k_X11_round_15 (F : FT) (Q : QT) : KT := o_aload 0 (o_ic (-1000000001) (o_cV 11 m_X11_finding 2 (o_iret Q)))
def k_X11_round_22 (F : FT) (Q : QT) : KT := o_aload 0 (o_getR 11 0 (o_iload 1 (o_iload 2 (o_cV 9 m_X9_shapeAt 3 (o_ifne (F 41) (o_aload 0 (o_ic (-1000000004) (o_cV 11 m_X11_finding 2 (o_iret Q)))))))))
def k_X11_round_41 (F : FT) (Q : QT) : KT := o_aload 0 (o_getR 11 0 (o_getR 9 2 (o_iload 1 (o_aald 4 (o_astore 3 (o_aload 3 (o_iload 2 (o_cV 2 m_X2_isRounded 2 (o_ifeq (F 66) (o_aload 0 (o_ic (-1000000005) (o_cV 11 m_X11_finding 2 (o_iret Q)))))))))))))
def k_X11_round_66 (F : FT) (Q : QT) : KT := o_aload 3 (o_getI 2 5 (o_ic (nI 8) (o_iclt (F 82) (o_aload 0 (o_ic (-1000000002) (o_cV 11 m_X11_finding 2 (o_iret Q)))))))
def k_X11_round_82 (F : FT) (Q : QT) : KT := o_aload 3 (o_iload 2 (o_cV 2 m_X2_addRounded 2 (o_aload 0 (o_iload 1 (o_cV 11 m_X11_taxOf 2 (o_iret Q))))))
set_option maxRecDepth 20000 in
theorem r_X11_round {a0 : Nat} {a1 : Int32} {a2 : Int32} {n : Nat} {R : RR} {I : II} {J : JJ} {Q : QT} (hn : n + 0 ≤ 90) (h : ∀ F : FT, al_Wk F → al_Ok F (k_X11_round_0 F Q) 0 → al_Ok F (k_X11_round_15 F Q) 15 → al_Ok F (k_X11_round_22 F Q) 22 → al_Ok F (k_X11_round_41 F Q) 41 → al_Ok F (k_X11_round_66 F Q) 66 → al_Ok F (k_X11_round_82 F Q) 82 → F 0 [some (.ref a0), some (.int a1), some (.int a2), none] [] n R I J) : CT m_X11_round 0 [.ref a0, .int a1, .int a2] n R I J Q :=
  CT.of (by decide) hn (fun _ => rfl) (fun _ => Nat.le_of_ble_eq_true rfl) (fun F p l e s m args below meth c Rm t Q0 C hQ hr hm => h F (fun _ _ _ _ _ _ _ _ => S_wk C)
    (S_aload_n C dX11_round_0 rfl (S_iload_n C dX11_round_1 rfl (S_cV (ci := 11) C ok_X11_isHouse rfl (al_at 369 (by decide +kernel) rfl) (Nat.le_of_ble_eq_true rfl) (Nat.le_of_ble_eq_true rfl) dX11_round_2 (S_ifeq (tgt := 15) C dX11_round_5 (by decide) (S_iload_n C dX11_round_8 rfl (S_cS C ok_X11_isPoint (al_at 505 (by decide +kernel) rfl) (Nat.le_of_ble_eq_true rfl) (Nat.le_of_ble_eq_true rfl) dX11_round_9 (S_ifne (tgt := 22) C dX11_round_12 (by decide) (fun _ _ _ _ _ _ h9 => h9))))))))
    (S_aload_n C dX11_round_15 rfl (S_ldc C dX11_round_16 (al_at 328 (by decide +kernel) rfl) (S_cV (ci := 11) C ok_X11_finding rfl (al_at 329 (by decide +kernel) rfl) (Nat.le_of_ble_eq_true rfl) (Nat.le_of_ble_eq_true rfl) dX11_round_18 (S_iret C hQ hr dX11_round_21))))
    (S_aload_n C dX11_round_22 rfl (S_getR (ci := 11) (j := 0) C inG11 rfl (Nat.le_of_ble_eq_true rfl) rfl (al_at 289 (by decide +kernel) rfl) dX11_round_23 (S_iload_n C dX11_round_26 rfl (S_iload_n C dX11_round_27 rfl (S_cV (ci := 9) C ok_X9_shapeAt rfl (al_at 508 (by decide +kernel) rfl) (Nat.le_of_ble_eq_true rfl) (Nat.le_of_ble_eq_true rfl) dX11_round_28 (S_ifne (tgt := 41) C dX11_round_31 (by decide) (S_aload_n C dX11_round_34 rfl (S_ldc C dX11_round_35 (al_at 517 (by decide +kernel) rfl) (S_cV (ci := 11) C ok_X11_finding rfl (al_at 329 (by decide +kernel) rfl) (Nat.le_of_ble_eq_true rfl) (Nat.le_of_ble_eq_true rfl) dX11_round_37 (S_iret C hQ hr dX11_round_40))))))))))
    (S_aload_n C dX11_round_41 rfl (S_getR (ci := 11) (j := 0) C inG11 rfl (Nat.le_of_ble_eq_true rfl) rfl (al_at 289 (by decide +kernel) rfl) dX11_round_42 (S_getR (ci := 9) (j := 2) C inG9 rfl (Nat.le_of_ble_eq_true rfl) rfl (al_at 178 (by decide +kernel) rfl) dX11_round_45 (S_iload_n C dX11_round_48 rfl (S_aald (ak := 4) C (fun _ _ _ _ _ _ => rfl) (fun _ => rfl) dX11_round_49 (S_astore_n C dX11_round_50 rfl (Nat.le_of_ble_eq_true rfl) (S_aload_n C dX11_round_51 rfl (S_iload_n C dX11_round_52 rfl (S_cV (ci := 2) C ok_X2_isRounded rfl (al_at 549 (by decide +kernel) rfl) (Nat.le_of_ble_eq_true rfl) (Nat.le_of_ble_eq_true rfl) dX11_round_53 (S_ifeq (tgt := 66) C dX11_round_56 (by decide) (S_aload_n C dX11_round_59 rfl (S_ldc C dX11_round_60 (al_at 522 (by decide +kernel) rfl) (S_cV (ci := 11) C ok_X11_finding rfl (al_at 329 (by decide +kernel) rfl) (Nat.le_of_ble_eq_true rfl) (Nat.le_of_ble_eq_true rfl) dX11_round_62 (S_iret C hQ hr dX11_round_65))))))))))))))
    (S_aload_n C dX11_round_66 rfl (S_getI (ci := 2) (j := 5) C inG2 rfl (Nat.le_of_ble_eq_true rfl) rfl (al_at 157 (by decide +kernel) rfl) dX11_round_67 (S_bipush C dX11_round_70 (by decide +kernel) (S_icmplt (tgt := 82) C dX11_round_72 (by decide) (S_aload_n C dX11_round_75 rfl (S_ldc C dX11_round_76 (al_at 356 (by decide +kernel) rfl) (S_cV (ci := 11) C ok_X11_finding rfl (al_at 329 (by decide +kernel) rfl) (Nat.le_of_ble_eq_true rfl) (Nat.le_of_ble_eq_true rfl) dX11_round_78 (S_iret C hQ hr dX11_round_81))))))))
    (S_aload_n C dX11_round_82 rfl (S_iload_n C dX11_round_83 rfl (S_cV (ci := 2) C ok_X2_addRounded rfl (al_at 550 (by decide +kernel) rfl) (Nat.le_of_ble_eq_true rfl) (Nat.le_of_ble_eq_true rfl) dX11_round_84 (S_aload_n C dX11_round_87 rfl (S_iload_n C dX11_round_88 rfl (S_cV (ci := 11) C ok_X11_taxOf rfl (al_at 389 (by decide +kernel) rfl) (Nat.le_of_ble_eq_true rfl) (Nat.le_of_ble_eq_true rfl) dX11_round_89 (S_iret C hQ hr dX11_round_92))))))))
theorem dX11_seen_0 : decode cX11_seen 0 = .ok (.iload_n 1, 1) := by decide +kernel
theorem dX11_seen_1 : decode cX11_seen 1 = .ok (.invokestatic 155, 3) := by decide +kernel
theorem dX11_seen_4 : decode cX11_seen 4 = .ok (.ifCond .ne 10, 3) := by decide +kernel
theorem dX11_seen_7 : decode cX11_seen 7 = .ok (.aload_n 0, 1) := by decide +kernel
theorem dX11_seen_8 : decode cX11_seen 8 = .ok (.ldc 81, 2) := by decide +kernel
theorem dX11_seen_10 : decode cX11_seen 10 = .ok (.invokevirtual 82, 3) := by decide +kernel
theorem dX11_seen_13 : decode cX11_seen 13 = .ok (.ireturn, 1) := by decide +kernel
theorem dX11_seen_14 : decode cX11_seen 14 = .ok (.aload_n 0, 1) := by decide +kernel
theorem dX11_seen_15 : decode cX11_seen 15 = .ok (.getfield 44, 3) := by decide +kernel
theorem dX11_seen_18 : decode cX11_seen 18 = .ok (.iload_n 1, 1) := by decide +kernel
theorem dX11_seen_19 : decode cX11_seen 19 = .ok (.invokevirtual 170, 3) := by decide +kernel
theorem dX11_seen_22 : decode cX11_seen 22 = .ok (.ireturn, 1) := by decide +kernel
def k_X11_seen_0 (F : FT) (Q : QT) : KT := o_iload 1 (o_cS m_X11_isPoint 1 (o_ifne (F 14) (o_aload 0 (o_ic (-1000000001) (o_cV 11 m_X11_finding 2 (o_iret Q))))))
def k_X11_seen_14 (F : FT) (Q : QT) : KT := o_aload 0 (o_getR 11 3 (o_iload 1 (o_cV 8 m_X8_seenFrom 2 (o_iret Q))))
set_option maxRecDepth 20000 in
theorem r_X11_seen {a0 : Nat} {a1 : Int32} {n : Nat} {R : RR} {I : II} {J : JJ} {Q : QT} (hn : n + 0 ≤ 90) (h : ∀ F : FT, al_Wk F → al_Ok F (k_X11_seen_0 F Q) 0 → al_Ok F (k_X11_seen_14 F Q) 14 → F 0 [some (.ref a0), some (.int a1)] [] n R I J) : CT m_X11_seen 0 [.ref a0, .int a1] n R I J Q :=
  CT.of (by decide) hn (fun _ => rfl) (fun _ => Nat.le_of_ble_eq_true rfl) (fun F p l e s m args below meth c Rm t Q0 C hQ hr hm => h F (fun _ _ _ _ _ _ _ _ => S_wk C)
    (S_iload_n C dX11_seen_0 rfl (S_cS C ok_X11_isPoint (al_at 505 (by decide +kernel) rfl) (Nat.le_of_ble_eq_true rfl) (Nat.le_of_ble_eq_true rfl) dX11_seen_1 (S_ifne (tgt := 14) C dX11_seen_4 (by decide) (S_aload_n C dX11_seen_7 rfl (S_ldc C dX11_seen_8 (al_at 328 (by decide +kernel) rfl) (S_cV (ci := 11) C ok_X11_finding rfl (al_at 329 (by decide +kernel) rfl) (Nat.le_of_ble_eq_true rfl) (Nat.le_of_ble_eq_true rfl) dX11_seen_10 (S_iret C hQ hr dX11_seen_13)))))))
    (S_aload_n C dX11_seen_14 rfl (S_getR (ci := 11) (j := 3) C inG11 rfl (Nat.le_of_ble_eq_true rfl) rfl (al_at 292 (by decide +kernel) rfl) dX11_seen_15 (S_iload_n C dX11_seen_18 rfl (S_cV (ci := 8) C ok_X8_seenFrom rfl (al_at 528 (by decide +kernel) rfl) (Nat.le_of_ble_eq_true rfl) (Nat.le_of_ble_eq_true rfl) dX11_seen_19 (S_iret C hQ hr dX11_seen_22))))))
theorem dX11_sees_0 : decode cX11_sees 0 = .ok (.iload_n 1, 1) := by decide +kernel
theorem dX11_sees_1 : decode cX11_sees 1 = .ok (.invokestatic 74, 3) := by decide +kernel
theorem dX11_sees_4 : decode cX11_sees 4 = .ok (.ifCond .eq 10, 3) := by decide +kernel
theorem dX11_sees_7 : decode cX11_sees 7 = .ok (.iload_n 2, 1) := by decide +kernel
theorem dX11_sees_8 : decode cX11_sees 8 = .ok (.invokestatic 155, 3) := by decide +kernel
theorem dX11_sees_11 : decode cX11_sees 11 = .ok (.ifCond .ne 10, 3) := by decide +kernel
theorem dX11_sees_14 : decode cX11_sees 14 = .ok (.aload_n 0, 1) := by decide +kernel
theorem dX11_sees_15 : decode cX11_sees 15 = .ok (.ldc 81, 2) := by decide +kernel
theorem dX11_sees_17 : decode cX11_sees 17 = .ok (.invokevirtual 82, 3) := by decide +kernel
theorem dX11_sees_20 : decode cX11_sees 20 = .ok (.ireturn, 1) := by decide +kernel
theorem dX11_sees_21 : decode cX11_sees 21 = .ok (.aload_n 0, 1) := by decide +kernel
theorem dX11_sees_22 : decode cX11_sees 22 = .ok (.getfield 30, 3) := by decide +kernel
theorem dX11_sees_25 : decode cX11_sees 25 = .ok (.getfield 86, 3) := by decide +kernel
theorem dX11_sees_28 : decode cX11_sees 28 = .ok (.iload_n 1, 1) := by decide +kernel
theorem dX11_sees_29 : decode cX11_sees 29 = .ok (.iaload, 1) := by decide +kernel
theorem dX11_sees_30 : decode cX11_sees 30 = .ok (.iconst 1, 1) := by decide +kernel
theorem dX11_sees_31 : decode cX11_sees 31 = .ok (.if_icmp .eq 10, 3) := by decide +kernel
theorem dX11_sees_34 : decode cX11_sees 34 = .ok (.aload_n 0, 1) := by decide +kernel
theorem dX11_sees_35 : decode cX11_sees 35 = .ok (.ldc 165, 2) := by decide +kernel
theorem dX11_sees_37 : decode cX11_sees 37 = .ok (.invokevirtual 82, 3) := by decide +kernel
theorem dX11_sees_40 : decode cX11_sees 40 = .ok (.ireturn, 1) := by decide +kernel
theorem dX11_sees_41 : decode cX11_sees 41 = .ok (.aload_n 0, 1) := by decide +kernel
theorem dX11_sees_42 : decode cX11_sees 42 = .ok (.getfield 44, 3) := by decide +kernel
theorem dX11_sees_45 : decode cX11_sees 45 = .ok (.iload_n 1, 1) := by decide +kernel
theorem dX11_sees_46 : decode cX11_sees 46 = .ok (.iload_n 2, 1) := by decide +kernel
theorem dX11_sees_47 : decode cX11_sees 47 = .ok (.invokevirtual 166, 3) := by decide +kernel
theorem dX11_sees_50 : decode cX11_sees 50 = .ok (.ifCond .eq 7, 3) := by decide +kernel
theorem dX11_sees_53 : decode cX11_sees 53 = .ok (.iconst 1, 1) := by decide +kernel
theorem dX11_sees_54 : decode cX11_sees 54 = .ok (.goto 4, 3) := by decide +kernel
theorem dX11_sees_57 : decode cX11_sees 57 = .ok (.iconst 0, 1) := by decide +kernel
theorem dX11_sees_58 : decode cX11_sees 58 = .ok (.ireturn, 1) := by decide +kernel
def k_X11_sees_0 (F : FT) (Q : QT) : KT := o_iload 1 (o_cS m_X11_isSquare 1 (o_ifeq (F 14) (o_iload 2 (o_cS m_X11_isPoint 1 (o_ifne (F 21) (F 14))))))
def k_X11_sees_14 (F : FT) (Q : QT) : KT := o_aload 0 (o_ic (-1000000001) (o_cV 11 m_X11_finding 2 (o_iret Q)))
def k_X11_sees_21 (F : FT) (Q : QT) : KT := o_aload 0 (o_getR 11 0 (o_getR 9 1 (o_iload 1 (o_iald (o_ic (nI 1) (o_iceq (F 41) (o_aload 0 (o_ic (-1000000005) (o_cV 11 m_X11_finding 2 (o_iret Q))))))))))
def k_X11_sees_41 (F : FT) (Q : QT) : KT := o_aload 0 (o_getR 11 3 (o_iload 1 (o_iload 2 (o_cV 8 m_X8_reaches 3 (o_ifeq (F 57) (o_ic (nI 1) (F 58)))))))
def k_X11_sees_57 (F : FT) (Q : QT) : KT := o_ic (nI 0) (F 58)
def k_X11_sees_58 (F : FT) (Q : QT) : KT := o_iret Q
set_option maxRecDepth 20000 in
theorem r_X11_sees {a0 : Nat} {a1 : Int32} {a2 : Int32} {n : Nat} {R : RR} {I : II} {J : JJ} {Q : QT} (hn : n + 0 ≤ 90) (h : ∀ F : FT, al_Wk F → al_Ok F (k_X11_sees_0 F Q) 0 → al_Ok F (k_X11_sees_14 F Q) 14 → al_Ok F (k_X11_sees_21 F Q) 21 → al_Ok F (k_X11_sees_41 F Q) 41 → al_Ok F (k_X11_sees_57 F Q) 57 → al_Ok F (k_X11_sees_58 F Q) 58 → F 0 [some (.ref a0), some (.int a1), some (.int a2)] [] n R I J) : CT m_X11_sees 0 [.ref a0, .int a1, .int a2] n R I J Q :=
  CT.of (by decide) hn (fun _ => rfl) (fun _ => Nat.le_of_ble_eq_true rfl) (fun F p l e s m args below meth c Rm t Q0 C hQ hr hm => h F (fun _ _ _ _ _ _ _ _ => S_wk C)
    (S_iload_n C dX11_sees_0 rfl (S_cS C ok_X11_isSquare (al_at 321 (by decide +kernel) rfl) (Nat.le_of_ble_eq_true rfl) (Nat.le_of_ble_eq_true rfl) dX11_sees_1 (S_ifeq (tgt := 14) C dX11_sees_4 (by decide) (S_iload_n C dX11_sees_7 rfl (S_cS C ok_X11_isPoint (al_at 505 (by decide +kernel) rfl) (Nat.le_of_ble_eq_true rfl) (Nat.le_of_ble_eq_true rfl) dX11_sees_8 (S_ifne (tgt := 21) C dX11_sees_11 (by decide) (fun _ _ _ _ _ _ h9 => h9)))))))
    (S_aload_n C dX11_sees_14 rfl (S_ldc C dX11_sees_15 (al_at 328 (by decide +kernel) rfl) (S_cV (ci := 11) C ok_X11_finding rfl (al_at 329 (by decide +kernel) rfl) (Nat.le_of_ble_eq_true rfl) (Nat.le_of_ble_eq_true rfl) dX11_sees_17 (S_iret C hQ hr dX11_sees_20))))
    (S_aload_n C dX11_sees_21 rfl (S_getR (ci := 11) (j := 0) C inG11 rfl (Nat.le_of_ble_eq_true rfl) rfl (al_at 289 (by decide +kernel) rfl) dX11_sees_22 (S_getR (ci := 9) (j := 1) C inG9 rfl (Nat.le_of_ble_eq_true rfl) rfl (al_at 175 (by decide +kernel) rfl) dX11_sees_25 (S_iload_n C dX11_sees_28 rfl (S_iald C dX11_sees_29 (S_iconst C dX11_sees_30 (by decide +kernel) (S_icmpeq (tgt := 41) C dX11_sees_31 (by decide) (S_aload_n C dX11_sees_34 rfl (S_ldc C dX11_sees_35 (al_at 522 (by decide +kernel) rfl) (S_cV (ci := 11) C ok_X11_finding rfl (al_at 329 (by decide +kernel) rfl) (Nat.le_of_ble_eq_true rfl) (Nat.le_of_ble_eq_true rfl) dX11_sees_37 (S_iret C hQ hr dX11_sees_40)))))))))))
    (S_aload_n C dX11_sees_41 rfl (S_getR (ci := 11) (j := 3) C inG11 rfl (Nat.le_of_ble_eq_true rfl) rfl (al_at 292 (by decide +kernel) rfl) dX11_sees_42 (S_iload_n C dX11_sees_45 rfl (S_iload_n C dX11_sees_46 rfl (S_cV (ci := 8) C ok_X8_reaches rfl (al_at 523 (by decide +kernel) rfl) (Nat.le_of_ble_eq_true rfl) (Nat.le_of_ble_eq_true rfl) dX11_sees_47 (S_ifeq (tgt := 57) C dX11_sees_50 (by decide) (S_iconst C dX11_sees_53 (by decide +kernel) (S_goto (tgt := 58) C dX11_sees_54 (by decide)))))))))
    (S_iconst C dX11_sees_57 (by decide +kernel) (fun _ _ _ _ _ _ h9 => h9))
    (S_iret C hQ hr dX11_sees_58))
theorem dX11_set_0 : decode cX11_set 0 = .ok (.aload_n 0, 1) := by decide +kernel
theorem dX11_set_1 : decode cX11_set 1 = .ok (.iload_n 1, 1) := by decide +kernel
theorem dX11_set_2 : decode cX11_set 2 = .ok (.invokevirtual 111, 3) := by decide +kernel
theorem dX11_set_5 : decode cX11_set 5 = .ok (.ifCond .ne 10, 3) := by decide +kernel
theorem dX11_set_8 : decode cX11_set 8 = .ok (.aload_n 0, 1) := by decide +kernel
theorem dX11_set_9 : decode cX11_set 9 = .ok (.ldc 81, 2) := by decide +kernel
theorem dX11_set_11 : decode cX11_set 11 = .ok (.invokevirtual 82, 3) := by decide +kernel
theorem dX11_set_14 : decode cX11_set 14 = .ok (.ireturn, 1) := by decide +kernel
theorem dX11_set_15 : decode cX11_set 15 = .ok (.aload_n 0, 1) := by decide +kernel
theorem dX11_set_16 : decode cX11_set 16 = .ok (.getfield 30, 3) := by decide +kernel
theorem dX11_set_19 : decode cX11_set 19 = .ok (.getfield 114, 3) := by decide +kernel
theorem dX11_set_22 : decode cX11_set 22 = .ok (.iload_n 1, 1) := by decide +kernel
theorem dX11_set_23 : decode cX11_set 23 = .ok (.aaload, 1) := by decide +kernel
theorem dX11_set_24 : decode cX11_set 24 = .ok (.astore 4, 2) := by decide +kernel
theorem dX11_set_26 : decode cX11_set 26 = .ok (.iload_n 2, 1) := by decide +kernel
theorem dX11_set_27 : decode cX11_set 27 = .ok (.iconst 1, 1) := by decide +kernel
theorem dX11_set_28 : decode cX11_set 28 = .ok (.if_icmp .ne 26, 3) := by decide +kernel
theorem dX11_set_31 : decode cX11_set 31 = .ok (.iload_n 3, 1) := by decide +kernel
theorem dX11_set_32 : decode cX11_set 32 = .ok (.invokestatic 99, 3) := by decide +kernel
theorem dX11_set_35 : decode cX11_set 35 = .ok (.ifCond .eq 19, 3) := by decide +kernel
theorem dX11_set_38 : decode cX11_set 38 = .ok (.aload 4, 2) := by decide +kernel
theorem dX11_set_40 : decode cX11_set 40 = .ok (.getfield 123, 3) := by decide +kernel
theorem dX11_set_43 : decode cX11_set 43 = .ok (.istore 5, 2) := by decide +kernel
theorem dX11_set_45 : decode cX11_set 45 = .ok (.aload 4, 2) := by decide +kernel
theorem dX11_set_47 : decode cX11_set 47 = .ok (.iload_n 3, 1) := by decide +kernel
theorem dX11_set_48 : decode cX11_set 48 = .ok (.putfield 123, 3) := by decide +kernel
theorem dX11_set_51 : decode cX11_set 51 = .ok (.iload 5, 2) := by decide +kernel
theorem dX11_set_53 : decode cX11_set 53 = .ok (.ireturn, 1) := by decide +kernel
theorem dX11_set_54 : decode cX11_set 54 = .ok (.iload_n 2, 1) := by decide +kernel
theorem dX11_set_55 : decode cX11_set 55 = .ok (.iconst 2, 1) := by decide +kernel
theorem dX11_set_56 : decode cX11_set 56 = .ok (.if_icmp .ne 26, 3) := by decide +kernel
theorem dX11_set_59 : decode cX11_set 59 = .ok (.iload_n 3, 1) := by decide +kernel
theorem dX11_set_60 : decode cX11_set 60 = .ok (.invokestatic 144, 3) := by decide +kernel
theorem dX11_set_63 : decode cX11_set 63 = .ok (.ifCond .eq 19, 3) := by decide +kernel
theorem dX11_set_66 : decode cX11_set 66 = .ok (.aload 4, 2) := by decide +kernel
theorem dX11_set_68 : decode cX11_set 68 = .ok (.getfield 126, 3) := by decide +kernel
theorem dX11_set_71 : decode cX11_set 71 = .ok (.istore 5, 2) := by decide +kernel
theorem dX11_set_73 : decode cX11_set 73 = .ok (.aload 4, 2) := by decide +kernel
theorem dX11_set_75 : decode cX11_set 75 = .ok (.iload_n 3, 1) := by decide +kernel
theorem dX11_set_76 : decode cX11_set 76 = .ok (.putfield 126, 3) := by decide +kernel
theorem dX11_set_79 : decode cX11_set 79 = .ok (.iload 5, 2) := by decide +kernel
theorem dX11_set_81 : decode cX11_set 81 = .ok (.ireturn, 1) := by decide +kernel
theorem dX11_set_82 : decode cX11_set 82 = .ok (.aload_n 0, 1) := by decide +kernel
theorem dX11_set_83 : decode cX11_set 83 = .ok (.ldc 81, 2) := by decide +kernel
theorem dX11_set_85 : decode cX11_set 85 = .ok (.invokevirtual 82, 3) := by decide +kernel
theorem dX11_set_88 : decode cX11_set 88 = .ok (.ireturn, 1) := by decide +kernel
def k_X11_set_0 (F : FT) (Q : QT) : KT := o_aload 0 (o_iload 1 (o_cV 11 m_X11_isHouse 2 (o_ifne (F 15) (o_aload 0 (o_ic (-1000000001) (o_cV 11 m_X11_finding 2 (o_iret Q)))))))
def k_X11_set_15 (F : FT) (Q : QT) : KT := o_aload 0 (o_getR 11 0 (o_getR 9 2 (o_iload 1 (o_aald 4 (o_astore 4 (o_iload 2 (o_ic (nI 1) (o_icne (F 54) (o_iload 3 (o_cS m_X11_isRate 1 (o_ifeq (F 54) (o_aload 4 (o_getI 2 1 (o_istore 5 (o_aload 4 (o_iload 3 (o_putI 2 1 (o_iload 5 (o_iret Q)))))))))))))))))))
def k_X11_set_54 (F : FT) (Q : QT) : KT := o_iload 2 (o_ic (nI 2) (o_icne (F 82) (o_iload 3 (o_cS m_X11_isWealth 1 (o_ifeq (F 82) (o_aload 4 (o_getI 2 2 (o_istore 5 (o_aload 4 (o_iload 3 (o_putI 2 2 (o_iload 5 (o_iret Q)))))))))))))
def k_X11_set_82 (F : FT) (Q : QT) : KT := o_aload 0 (o_ic (-1000000001) (o_cV 11 m_X11_finding 2 (o_iret Q)))
set_option maxRecDepth 20000 in
theorem r_X11_set {a0 : Nat} {a1 : Int32} {a2 : Int32} {a3 : Int32} {n : Nat} {R : RR} {I : II} {J : JJ} {Q : QT} (hn : n + 0 ≤ 90) (h : ∀ F : FT, al_Wk F → al_Ok F (k_X11_set_0 F Q) 0 → al_Ok F (k_X11_set_15 F Q) 15 → al_Ok F (k_X11_set_54 F Q) 54 → al_Ok F (k_X11_set_82 F Q) 82 → F 0 [some (.ref a0), some (.int a1), some (.int a2), some (.int a3), none, none] [] n R I J) : CT m_X11_set 0 [.ref a0, .int a1, .int a2, .int a3] n R I J Q :=
  CT.of (by decide) hn (fun _ => rfl) (fun _ => Nat.le_of_ble_eq_true rfl) (fun F p l e s m args below meth c Rm t Q0 C hQ hr hm => h F (fun _ _ _ _ _ _ _ _ => S_wk C)
    (S_aload_n C dX11_set_0 rfl (S_iload_n C dX11_set_1 rfl (S_cV (ci := 11) C ok_X11_isHouse rfl (al_at 369 (by decide +kernel) rfl) (Nat.le_of_ble_eq_true rfl) (Nat.le_of_ble_eq_true rfl) dX11_set_2 (S_ifne (tgt := 15) C dX11_set_5 (by decide) (S_aload_n C dX11_set_8 rfl (S_ldc C dX11_set_9 (al_at 328 (by decide +kernel) rfl) (S_cV (ci := 11) C ok_X11_finding rfl (al_at 329 (by decide +kernel) rfl) (Nat.le_of_ble_eq_true rfl) (Nat.le_of_ble_eq_true rfl) dX11_set_11 (S_iret C hQ hr dX11_set_14))))))))
    (S_aload_n C dX11_set_15 rfl (S_getR (ci := 11) (j := 0) C inG11 rfl (Nat.le_of_ble_eq_true rfl) rfl (al_at 289 (by decide +kernel) rfl) dX11_set_16 (S_getR (ci := 9) (j := 2) C inG9 rfl (Nat.le_of_ble_eq_true rfl) rfl (al_at 178 (by decide +kernel) rfl) dX11_set_19 (S_iload_n C dX11_set_22 rfl (S_aald (ak := 4) C (fun _ _ _ _ _ _ => rfl) (fun _ => rfl) dX11_set_23 (S_astore C dX11_set_24 (Nat.le_of_ble_eq_true rfl) (S_iload_n C dX11_set_26 rfl (S_iconst C dX11_set_27 (by decide +kernel) (S_icmpne (tgt := 54) C dX11_set_28 (by decide) (S_iload_n C dX11_set_31 rfl (S_cS C ok_X11_isRate (al_at 353 (by decide +kernel) rfl) (Nat.le_of_ble_eq_true rfl) (Nat.le_of_ble_eq_true rfl) dX11_set_32 (S_ifeq (tgt := 54) C dX11_set_35 (by decide) (S_aload C dX11_set_38 (S_getI (ci := 2) (j := 1) C inG2 rfl (Nat.le_of_ble_eq_true rfl) rfl (al_at 149 (by decide +kernel) rfl) dX11_set_40 (S_istore C dX11_set_43 (Nat.le_of_ble_eq_true rfl) (S_aload C dX11_set_45 (S_iload_n C dX11_set_47 rfl (S_putI (ci := 2) (j := 1) C inG2 rfl (Nat.le_of_ble_eq_true rfl) tyX2 tyX2_ok nmX2 rfl rfl (tyX2_ok 1 (Nat.le_of_ble_eq_true rfl)) (al_at 149 (by decide +kernel) rfl) dX11_set_48 (S_iload C dX11_set_51 (S_iret C hQ hr dX11_set_53))))))))))))))))))))
    (S_iload_n C dX11_set_54 rfl (S_iconst C dX11_set_55 (by decide +kernel) (S_icmpne (tgt := 82) C dX11_set_56 (by decide) (S_iload_n C dX11_set_59 rfl (S_cS C ok_X11_isWealth (al_at 463 (by decide +kernel) rfl) (Nat.le_of_ble_eq_true rfl) (Nat.le_of_ble_eq_true rfl) dX11_set_60 (S_ifeq (tgt := 82) C dX11_set_63 (by decide) (S_aload C dX11_set_66 (S_getI (ci := 2) (j := 2) C inG2 rfl (Nat.le_of_ble_eq_true rfl) rfl (al_at 151 (by decide +kernel) rfl) dX11_set_68 (S_istore C dX11_set_71 (Nat.le_of_ble_eq_true rfl) (S_aload C dX11_set_73 (S_iload_n C dX11_set_75 rfl (S_putI (ci := 2) (j := 2) C inG2 rfl (Nat.le_of_ble_eq_true rfl) tyX2 tyX2_ok nmX2 rfl rfl (tyX2_ok 2 (Nat.le_of_ble_eq_true rfl)) (al_at 151 (by decide +kernel) rfl) dX11_set_76 (S_iload C dX11_set_79 (S_iret C hQ hr dX11_set_81))))))))))))))
    (S_aload_n C dX11_set_82 rfl (S_ldc C dX11_set_83 (al_at 328 (by decide +kernel) rfl) (S_cV (ci := 11) C ok_X11_finding rfl (al_at 329 (by decide +kernel) rfl) (Nat.le_of_ble_eq_true rfl) (Nat.le_of_ble_eq_true rfl) dX11_set_85 (S_iret C hQ hr dX11_set_88)))))
theorem dX11_shed_0 : decode cX11_shed 0 = .ok (.aload_n 0, 1) := by decide +kernel
theorem dX11_shed_1 : decode cX11_shed 1 = .ok (.iload_n 1, 1) := by decide +kernel
theorem dX11_shed_2 : decode cX11_shed 2 = .ok (.invokevirtual 111, 3) := by decide +kernel
theorem dX11_shed_5 : decode cX11_shed 5 = .ok (.ifCond .ne 10, 3) := by decide +kernel
theorem dX11_shed_8 : decode cX11_shed 8 = .ok (.aload_n 0, 1) := by decide +kernel
theorem dX11_shed_9 : decode cX11_shed 9 = .ok (.ldc 81, 2) := by decide +kernel
theorem dX11_shed_11 : decode cX11_shed 11 = .ok (.invokevirtual 82, 3) := by decide +kernel
theorem dX11_shed_14 : decode cX11_shed 14 = .ok (.ireturn, 1) := by decide +kernel
theorem dX11_shed_15 : decode cX11_shed 15 = .ok (.aload_n 0, 1) := by decide +kernel
theorem dX11_shed_16 : decode cX11_shed 16 = .ok (.getfield 44, 3) := by decide +kernel
theorem dX11_shed_19 : decode cX11_shed 19 = .ok (.iload_n 1, 1) := by decide +kernel
theorem dX11_shed_20 : decode cX11_shed 20 = .ok (.invokevirtual 186, 3) := by decide +kernel
theorem dX11_shed_23 : decode cX11_shed 23 = .ok (.istore_n 2, 1) := by decide +kernel
theorem dX11_shed_24 : decode cX11_shed 24 = .ok (.iload_n 2, 1) := by decide +kernel
theorem dX11_shed_25 : decode cX11_shed 25 = .ok (.ifCond .lt 7, 3) := by decide +kernel
theorem dX11_shed_28 : decode cX11_shed 28 = .ok (.iload_n 2, 1) := by decide +kernel
theorem dX11_shed_29 : decode cX11_shed 29 = .ok (.goto 9, 3) := by decide +kernel
theorem dX11_shed_32 : decode cX11_shed 32 = .ok (.aload_n 0, 1) := by decide +kernel
theorem dX11_shed_33 : decode cX11_shed 33 = .ok (.ldc 164, 2) := by decide +kernel
theorem dX11_shed_35 : decode cX11_shed 35 = .ok (.invokevirtual 82, 3) := by decide +kernel
theorem dX11_shed_38 : decode cX11_shed 38 = .ok (.ireturn, 1) := by decide +kernel
def k_X11_shed_0 (F : FT) (Q : QT) : KT := o_aload 0 (o_iload 1 (o_cV 11 m_X11_isHouse 2 (o_ifne (F 15) (o_aload 0 (o_ic (-1000000001) (o_cV 11 m_X11_finding 2 (o_iret Q)))))))
def k_X11_shed_15 (F : FT) (Q : QT) : KT := o_aload 0 (o_getR 11 3 (o_iload 1 (o_cV 8 m_X8_bestShed 2 (o_istore 2 (o_iload 2 (o_iflt (F 32) (o_iload 2 (F 38))))))))
def k_X11_shed_32 (F : FT) (Q : QT) : KT := o_aload 0 (o_ic (-1000000004) (o_cV 11 m_X11_finding 2 (F 38)))
def k_X11_shed_38 (F : FT) (Q : QT) : KT := o_iret Q
set_option maxRecDepth 20000 in
theorem r_X11_shed {a0 : Nat} {a1 : Int32} {n : Nat} {R : RR} {I : II} {J : JJ} {Q : QT} (hn : n + 0 ≤ 90) (h : ∀ F : FT, al_Wk F → al_Ok F (k_X11_shed_0 F Q) 0 → al_Ok F (k_X11_shed_15 F Q) 15 → al_Ok F (k_X11_shed_32 F Q) 32 → al_Ok F (k_X11_shed_38 F Q) 38 → F 0 [some (.ref a0), some (.int a1), none] [] n R I J) : CT m_X11_shed 0 [.ref a0, .int a1] n R I J Q :=
  CT.of (by decide) hn (fun _ => rfl) (fun _ => Nat.le_of_ble_eq_true rfl) (fun F p l e s m args below meth c Rm t Q0 C hQ hr hm => h F (fun _ _ _ _ _ _ _ _ => S_wk C)
    (S_aload_n C dX11_shed_0 rfl (S_iload_n C dX11_shed_1 rfl (S_cV (ci := 11) C ok_X11_isHouse rfl (al_at 369 (by decide +kernel) rfl) (Nat.le_of_ble_eq_true rfl) (Nat.le_of_ble_eq_true rfl) dX11_shed_2 (S_ifne (tgt := 15) C dX11_shed_5 (by decide) (S_aload_n C dX11_shed_8 rfl (S_ldc C dX11_shed_9 (al_at 328 (by decide +kernel) rfl) (S_cV (ci := 11) C ok_X11_finding rfl (al_at 329 (by decide +kernel) rfl) (Nat.le_of_ble_eq_true rfl) (Nat.le_of_ble_eq_true rfl) dX11_shed_11 (S_iret C hQ hr dX11_shed_14))))))))
    (S_aload_n C dX11_shed_15 rfl (S_getR (ci := 11) (j := 3) C inG11 rfl (Nat.le_of_ble_eq_true rfl) rfl (al_at 292 (by decide +kernel) rfl) dX11_shed_16 (S_iload_n C dX11_shed_19 rfl (S_cV (ci := 8) C ok_X8_bestShed rfl (al_at 562 (by decide +kernel) rfl) (Nat.le_of_ble_eq_true rfl) (Nat.le_of_ble_eq_true rfl) dX11_shed_20 (S_istore_n C dX11_shed_23 rfl (Nat.le_of_ble_eq_true rfl) (S_iload_n C dX11_shed_24 rfl (S_iflt (tgt := 32) C dX11_shed_25 (by decide) (S_iload_n C dX11_shed_28 rfl (S_goto (tgt := 38) C dX11_shed_29 (by decide))))))))))
    (S_aload_n C dX11_shed_32 rfl (S_ldc C dX11_shed_33 (al_at 517 (by decide +kernel) rfl) (S_cV (ci := 11) C ok_X11_finding rfl (al_at 329 (by decide +kernel) rfl) (Nat.le_of_ble_eq_true rfl) (Nat.le_of_ble_eq_true rfl) dX11_shed_35 (fun _ _ _ _ _ _ h9 => h9))))
    (S_iret C hQ hr dX11_shed_38))
theorem dX11_sheet_0 : decode cX11_sheet 0 = .ok (.iload_n 1, 1) := by decide +kernel
theorem dX11_sheet_1 : decode cX11_sheet 1 = .ok (.invokestatic 220, 3) := by decide +kernel
theorem dX11_sheet_4 : decode cX11_sheet 4 = .ok (.ifCond .eq 25, 3) := by decide +kernel
theorem dX11_sheet_7 : decode cX11_sheet 7 = .ok (.iload_n 2, 1) := by decide +kernel
theorem dX11_sheet_8 : decode cX11_sheet 8 = .ok (.ifCond .eq 28, 3) := by decide +kernel
theorem dX11_sheet_11 : decode cX11_sheet 11 = .ok (.iload_n 2, 1) := by decide +kernel
theorem dX11_sheet_12 : decode cX11_sheet 12 = .ok (.bipush 8, 2) := by decide +kernel
theorem dX11_sheet_14 : decode cX11_sheet 14 = .ok (.if_icmp .eq 22, 3) := by decide +kernel
theorem dX11_sheet_17 : decode cX11_sheet 17 = .ok (.iload_n 2, 1) := by decide +kernel
theorem dX11_sheet_18 : decode cX11_sheet 18 = .ok (.bipush 16, 2) := by decide +kernel
theorem dX11_sheet_20 : decode cX11_sheet 20 = .ok (.if_icmp .eq 16, 3) := by decide +kernel
theorem dX11_sheet_23 : decode cX11_sheet 23 = .ok (.iload_n 2, 1) := by decide +kernel
theorem dX11_sheet_24 : decode cX11_sheet 24 = .ok (.bipush 64, 2) := by decide +kernel
theorem dX11_sheet_26 : decode cX11_sheet 26 = .ok (.if_icmp .eq 10, 3) := by decide +kernel
theorem dX11_sheet_29 : decode cX11_sheet 29 = .ok (.aload_n 0, 1) := by decide +kernel
theorem dX11_sheet_30 : decode cX11_sheet 30 = .ok (.ldc 81, 2) := by decide +kernel
theorem dX11_sheet_32 : decode cX11_sheet 32 = .ok (.invokevirtual 82, 3) := by decide +kernel
theorem dX11_sheet_35 : decode cX11_sheet 35 = .ok (.ireturn, 1) := by decide +kernel
theorem dX11_sheet_36 : decode cX11_sheet 36 = .ok (.iload_n 3, 1) := by decide +kernel
theorem dX11_sheet_37 : decode cX11_sheet 37 = .ok (.ifCond .ge 10, 3) := by decide +kernel
theorem dX11_sheet_40 : decode cX11_sheet 40 = .ok (.aload_n 0, 1) := by decide +kernel
theorem dX11_sheet_41 : decode cX11_sheet 41 = .ok (.ldc 223, 2) := by decide +kernel
theorem dX11_sheet_43 : decode cX11_sheet 43 = .ok (.invokevirtual 82, 3) := by decide +kernel
theorem dX11_sheet_46 : decode cX11_sheet 46 = .ok (.ireturn, 1) := by decide +kernel
theorem dX11_sheet_47 : decode cX11_sheet 47 = .ok (.iload_n 3, 1) := by decide +kernel
theorem dX11_sheet_48 : decode cX11_sheet 48 = .ok (.bipush 40, 2) := by decide +kernel
theorem dX11_sheet_50 : decode cX11_sheet 50 = .ok (.if_icmp .le 10, 3) := by decide +kernel
theorem dX11_sheet_53 : decode cX11_sheet 53 = .ok (.aload_n 0, 1) := by decide +kernel
theorem dX11_sheet_54 : decode cX11_sheet 54 = .ok (.ldc 81, 2) := by decide +kernel
theorem dX11_sheet_56 : decode cX11_sheet 56 = .ok (.invokevirtual 82, 3) := by decide +kernel
theorem dX11_sheet_59 : decode cX11_sheet 59 = .ok (.ireturn, 1) := by decide +kernel
theorem dX11_sheet_60 : decode cX11_sheet 60 = .ok (.aload_n 0, 1) := by decide +kernel
theorem dX11_sheet_61 : decode cX11_sheet 61 = .ok (.getfield 59, 3) := by decide +kernel
theorem dX11_sheet_64 : decode cX11_sheet 64 = .ok (.iload_n 1, 1) := by decide +kernel
theorem dX11_sheet_65 : decode cX11_sheet 65 = .ok (.aaload, 1) := by decide +kernel
theorem dX11_sheet_66 : decode cX11_sheet 66 = .ok (.iload_n 2, 1) := by decide +kernel
theorem dX11_sheet_67 : decode cX11_sheet 67 = .ok (.iload_n 2, 1) := by decide +kernel
theorem dX11_sheet_68 : decode cX11_sheet 68 = .ok (.ifCond .ne 7, 3) := by decide +kernel
theorem dX11_sheet_71 : decode cX11_sheet 71 = .ok (.iconst 0, 1) := by decide +kernel
theorem dX11_sheet_72 : decode cX11_sheet 72 = .ok (.goto 4, 3) := by decide +kernel
theorem dX11_sheet_75 : decode cX11_sheet 75 = .ok (.iload_n 3, 1) := by decide +kernel
theorem dX11_sheet_76 : decode cX11_sheet 76 = .ok (.invokevirtual 224, 3) := by decide +kernel
theorem dX11_sheet_79 : decode cX11_sheet 79 = .ok (.aload_n 0, 1) := by decide +kernel
theorem dX11_sheet_80 : decode cX11_sheet 80 = .ok (.getfield 59, 3) := by decide +kernel
theorem dX11_sheet_83 : decode cX11_sheet 83 = .ok (.iload_n 1, 1) := by decide +kernel
theorem dX11_sheet_84 : decode cX11_sheet 84 = .ok (.aaload, 1) := by decide +kernel
theorem dX11_sheet_85 : decode cX11_sheet 85 = .ok (.getfield 227, 3) := by decide +kernel
theorem dX11_sheet_88 : decode cX11_sheet 88 = .ok (.ireturn, 1) := by decide +kernel
def k_X11_sheet_0 (F : FT) (Q : QT) : KT := o_iload 1 (o_cS m_X11_isSheet 1 (o_ifeq (F 29) (o_iload 2 (o_ifeq (F 36) (o_iload 2 (o_ic (nI 8) (o_iceq (F 36) (o_iload 2 (o_ic (nI 16) (o_iceq (F 36) (o_iload 2 (o_ic (nI 64) (o_iceq (F 36) (F 29))))))))))))))
def k_X11_sheet_29 (F : FT) (Q : QT) : KT := o_aload 0 (o_ic (-1000000001) (o_cV 11 m_X11_finding 2 (o_iret Q)))
def k_X11_sheet_36 (F : FT) (Q : QT) : KT := o_iload 3 (o_ifge (F 47) (o_aload 0 (o_ic (-1000000007) (o_cV 11 m_X11_finding 2 (o_iret Q)))))
def k_X11_sheet_47 (F : FT) (Q : QT) : KT := o_iload 3 (o_ic (nI 40) (o_icle (F 60) (o_aload 0 (o_ic (-1000000001) (o_cV 11 m_X11_finding 2 (o_iret Q))))))
def k_X11_sheet_60 (F : FT) (Q : QT) : KT := o_aload 0 (o_getR 11 5 (o_iload 1 (o_aald 5 (o_iload 2 (o_iload 2 (o_ifne (F 75) (o_ic (nI 0) (F 76))))))))
def k_X11_sheet_75 (F : FT) (Q : QT) : KT := o_iload 3 (F 76)
def k_X11_sheet_76 (F : FT) (Q : QT) : KT := o_cV 7 m_X7_become 3 (o_aload 0 (o_getR 11 5 (o_iload 1 (o_aald 5 (o_getI 7 1 (o_iret Q))))))
set_option maxRecDepth 20000 in
theorem r_X11_sheet {a0 : Nat} {a1 : Int32} {a2 : Int32} {a3 : Int32} {n : Nat} {R : RR} {I : II} {J : JJ} {Q : QT} (hn : n + 0 ≤ 90) (h : ∀ F : FT, al_Wk F → al_Ok F (k_X11_sheet_0 F Q) 0 → al_Ok F (k_X11_sheet_29 F Q) 29 → al_Ok F (k_X11_sheet_36 F Q) 36 → al_Ok F (k_X11_sheet_47 F Q) 47 → al_Ok F (k_X11_sheet_60 F Q) 60 → al_Ok F (k_X11_sheet_75 F Q) 75 → al_Ok F (k_X11_sheet_76 F Q) 76 → F 0 [some (.ref a0), some (.int a1), some (.int a2), some (.int a3)] [] n R I J) : CT m_X11_sheet 0 [.ref a0, .int a1, .int a2, .int a3] n R I J Q :=
  CT.of (by decide) hn (fun _ => rfl) (fun _ => Nat.le_of_ble_eq_true rfl) (fun F p l e s m args below meth c Rm t Q0 C hQ hr hm => h F (fun _ _ _ _ _ _ _ _ => S_wk C)
    (S_iload_n C dX11_sheet_0 rfl (S_cS C ok_X11_isSheet (al_at 835 (by decide +kernel) rfl) (Nat.le_of_ble_eq_true rfl) (Nat.le_of_ble_eq_true rfl) dX11_sheet_1 (S_ifeq (tgt := 29) C dX11_sheet_4 (by decide) (S_iload_n C dX11_sheet_7 rfl (S_ifeq (tgt := 36) C dX11_sheet_8 (by decide) (S_iload_n C dX11_sheet_11 rfl (S_bipush C dX11_sheet_12 (by decide +kernel) (S_icmpeq (tgt := 36) C dX11_sheet_14 (by decide) (S_iload_n C dX11_sheet_17 rfl (S_bipush C dX11_sheet_18 (by decide +kernel) (S_icmpeq (tgt := 36) C dX11_sheet_20 (by decide) (S_iload_n C dX11_sheet_23 rfl (S_bipush C dX11_sheet_24 (by decide +kernel) (S_icmpeq (tgt := 36) C dX11_sheet_26 (by decide) (fun _ _ _ _ _ _ h9 => h9)))))))))))))))
    (S_aload_n C dX11_sheet_29 rfl (S_ldc C dX11_sheet_30 (al_at 328 (by decide +kernel) rfl) (S_cV (ci := 11) C ok_X11_finding rfl (al_at 329 (by decide +kernel) rfl) (Nat.le_of_ble_eq_true rfl) (Nat.le_of_ble_eq_true rfl) dX11_sheet_32 (S_iret C hQ hr dX11_sheet_35))))
    (S_iload_n C dX11_sheet_36 rfl (S_ifge (tgt := 47) C dX11_sheet_37 (by decide) (S_aload_n C dX11_sheet_40 rfl (S_ldc C dX11_sheet_41 (al_at 838 (by decide +kernel) rfl) (S_cV (ci := 11) C ok_X11_finding rfl (al_at 329 (by decide +kernel) rfl) (Nat.le_of_ble_eq_true rfl) (Nat.le_of_ble_eq_true rfl) dX11_sheet_43 (S_iret C hQ hr dX11_sheet_46))))))
    (S_iload_n C dX11_sheet_47 rfl (S_bipush C dX11_sheet_48 (by decide +kernel) (S_icmple (tgt := 60) C dX11_sheet_50 (by decide) (S_aload_n C dX11_sheet_53 rfl (S_ldc C dX11_sheet_54 (al_at 328 (by decide +kernel) rfl) (S_cV (ci := 11) C ok_X11_finding rfl (al_at 329 (by decide +kernel) rfl) (Nat.le_of_ble_eq_true rfl) (Nat.le_of_ble_eq_true rfl) dX11_sheet_56 (S_iret C hQ hr dX11_sheet_59)))))))
    (S_aload_n C dX11_sheet_60 rfl (S_getR (ci := 11) (j := 5) C inG11 rfl (Nat.le_of_ble_eq_true rfl) rfl (al_at 294 (by decide +kernel) rfl) dX11_sheet_61 (S_iload_n C dX11_sheet_64 rfl (S_aald (ak := 5) C (fun _ _ _ _ _ _ => rfl) (fun _ => rfl) dX11_sheet_65 (S_iload_n C dX11_sheet_66 rfl (S_iload_n C dX11_sheet_67 rfl (S_ifne (tgt := 75) C dX11_sheet_68 (by decide) (S_iconst C dX11_sheet_71 (by decide +kernel) (S_goto (tgt := 76) C dX11_sheet_72 (by decide))))))))))
    (S_iload_n C dX11_sheet_75 rfl (fun _ _ _ _ _ _ h9 => h9))
    (S_cV (ci := 7) C ok_X7_become rfl (al_at 839 (by decide +kernel) rfl) (Nat.le_of_ble_eq_true rfl) (Nat.le_of_ble_eq_true rfl) dX11_sheet_76 (S_aload_n C dX11_sheet_79 rfl (S_getR (ci := 11) (j := 5) C inG11 rfl (Nat.le_of_ble_eq_true rfl) rfl (al_at 294 (by decide +kernel) rfl) dX11_sheet_80 (S_iload_n C dX11_sheet_83 rfl (S_aald (ak := 5) C (fun _ _ _ _ _ _ => rfl) (fun _ => rfl) dX11_sheet_84 (S_getI (ci := 7) (j := 1) C inG7 rfl (Nat.le_of_ble_eq_true rfl) rfl (al_at 279 (by decide +kernel) rfl) dX11_sheet_85 (S_iret C hQ hr dX11_sheet_88))))))))
theorem dX11_spots_0 : decode cX11_spots 0 = .ok (.iload_n 1, 1) := by decide +kernel
theorem dX11_spots_1 : decode cX11_spots 1 = .ok (.iconst (-1), 1) := by decide +kernel
theorem dX11_spots_2 : decode cX11_spots 2 = .ok (.if_icmp .lt 9, 3) := by decide +kernel
theorem dX11_spots_5 : decode cX11_spots 5 = .ok (.iload_n 1, 1) := by decide +kernel
theorem dX11_spots_6 : decode cX11_spots 6 = .ok (.bipush 64, 2) := by decide +kernel
theorem dX11_spots_8 : decode cX11_spots 8 = .ok (.if_icmp .lt 10, 3) := by decide +kernel
theorem dX11_spots_11 : decode cX11_spots 11 = .ok (.aload_n 0, 1) := by decide +kernel
theorem dX11_spots_12 : decode cX11_spots 12 = .ok (.ldc 81, 2) := by decide +kernel
theorem dX11_spots_14 : decode cX11_spots 14 = .ok (.invokevirtual 82, 3) := by decide +kernel
theorem dX11_spots_17 : decode cX11_spots 17 = .ok (.ireturn, 1) := by decide +kernel
theorem dX11_spots_18 : decode cX11_spots 18 = .ok (.aload_n 0, 1) := by decide +kernel
theorem dX11_spots_19 : decode cX11_spots 19 = .ok (.getfield 44, 3) := by decide +kernel
theorem dX11_spots_22 : decode cX11_spots 22 = .ok (.invokevirtual 192, 3) := by decide +kernel
theorem dX11_spots_25 : decode cX11_spots 25 = .ok (.iload_n 1, 1) := by decide +kernel
theorem dX11_spots_26 : decode cX11_spots 26 = .ok (.iconst (-1), 1) := by decide +kernel
theorem dX11_spots_27 : decode cX11_spots 27 = .ok (.if_icmp .ne 11, 3) := by decide +kernel
theorem dX11_spots_30 : decode cX11_spots 30 = .ok (.aload_n 0, 1) := by decide +kernel
theorem dX11_spots_31 : decode cX11_spots 31 = .ok (.getfield 44, 3) := by decide +kernel
theorem dX11_spots_34 : decode cX11_spots 34 = .ok (.getfield 195, 3) := by decide +kernel
theorem dX11_spots_37 : decode cX11_spots 37 = .ok (.ireturn, 1) := by decide +kernel
theorem dX11_spots_38 : decode cX11_spots 38 = .ok (.iload_n 1, 1) := by decide +kernel
theorem dX11_spots_39 : decode cX11_spots 39 = .ok (.aload_n 0, 1) := by decide +kernel
theorem dX11_spots_40 : decode cX11_spots 40 = .ok (.getfield 44, 3) := by decide +kernel
theorem dX11_spots_43 : decode cX11_spots 43 = .ok (.getfield 195, 3) := by decide +kernel
theorem dX11_spots_46 : decode cX11_spots 46 = .ok (.if_icmp .ge 15, 3) := by decide +kernel
theorem dX11_spots_49 : decode cX11_spots 49 = .ok (.aload_n 0, 1) := by decide +kernel
theorem dX11_spots_50 : decode cX11_spots 50 = .ok (.getfield 44, 3) := by decide +kernel
theorem dX11_spots_53 : decode cX11_spots 53 = .ok (.getfield 198, 3) := by decide +kernel
theorem dX11_spots_56 : decode cX11_spots 56 = .ok (.iload_n 1, 1) := by decide +kernel
theorem dX11_spots_57 : decode cX11_spots 57 = .ok (.iaload, 1) := by decide +kernel
theorem dX11_spots_58 : decode cX11_spots 58 = .ok (.goto 9, 3) := by decide +kernel
theorem dX11_spots_61 : decode cX11_spots 61 = .ok (.aload_n 0, 1) := by decide +kernel
theorem dX11_spots_62 : decode cX11_spots 62 = .ok (.ldc 164, 2) := by decide +kernel
theorem dX11_spots_64 : decode cX11_spots 64 = .ok (.invokevirtual 82, 3) := by decide +kernel
theorem dX11_spots_67 : decode cX11_spots 67 = .ok (.ireturn, 1) := by decide +kernel
def k_X11_spots_0 (F : FT) (Q : QT) : KT := o_iload 1 (o_ic (-1) (o_iclt (F 11) (o_iload 1 (o_ic (nI 64) (o_iclt (F 18) (F 11))))))
def k_X11_spots_11 (F : FT) (Q : QT) : KT := o_aload 0 (o_ic (-1000000001) (o_cV 11 m_X11_finding 2 (o_iret Q)))
def k_X11_spots_18 (F : FT) (Q : QT) : KT := o_aload 0 (o_getR 11 3 (o_cV 8 m_X8_planTour 1 (o_iload 1 (o_ic (-1) (o_icne (F 38) (o_aload 0 (o_getR 11 3 (o_getI 8 7 (o_iret Q)))))))))
def k_X11_spots_38 (F : FT) (Q : QT) : KT := o_iload 1 (o_aload 0 (o_getR 11 3 (o_getI 8 7 (o_icge (F 61) (o_aload 0 (o_getR 11 3 (o_getR 8 6 (o_iload 1 (o_iald (F 67))))))))))
def k_X11_spots_61 (F : FT) (Q : QT) : KT := o_aload 0 (o_ic (-1000000004) (o_cV 11 m_X11_finding 2 (F 67)))
def k_X11_spots_67 (F : FT) (Q : QT) : KT := o_iret Q
set_option maxRecDepth 20000 in
theorem r_X11_spots {a0 : Nat} {a1 : Int32} {n : Nat} {R : RR} {I : II} {J : JJ} {Q : QT} (hn : n + 0 ≤ 90) (h : ∀ F : FT, al_Wk F → al_Ok F (k_X11_spots_0 F Q) 0 → al_Ok F (k_X11_spots_11 F Q) 11 → al_Ok F (k_X11_spots_18 F Q) 18 → al_Ok F (k_X11_spots_38 F Q) 38 → al_Ok F (k_X11_spots_61 F Q) 61 → al_Ok F (k_X11_spots_67 F Q) 67 → F 0 [some (.ref a0), some (.int a1)] [] n R I J) : CT m_X11_spots 0 [.ref a0, .int a1] n R I J Q :=
  CT.of (by decide) hn (fun _ => rfl) (fun _ => Nat.le_of_ble_eq_true rfl) (fun F p l e s m args below meth c Rm t Q0 C hQ hr hm => h F (fun _ _ _ _ _ _ _ _ => S_wk C)
    (S_iload_n C dX11_spots_0 rfl (S_iconst C dX11_spots_1 (by decide +kernel) (S_icmplt (tgt := 11) C dX11_spots_2 (by decide) (S_iload_n C dX11_spots_5 rfl (S_bipush C dX11_spots_6 (by decide +kernel) (S_icmplt (tgt := 18) C dX11_spots_8 (by decide) (fun _ _ _ _ _ _ h9 => h9)))))))
    (S_aload_n C dX11_spots_11 rfl (S_ldc C dX11_spots_12 (al_at 328 (by decide +kernel) rfl) (S_cV (ci := 11) C ok_X11_finding rfl (al_at 329 (by decide +kernel) rfl) (Nat.le_of_ble_eq_true rfl) (Nat.le_of_ble_eq_true rfl) dX11_spots_14 (S_iret C hQ hr dX11_spots_17))))
    (S_aload_n C dX11_spots_18 rfl (S_getR (ci := 11) (j := 3) C inG11 rfl (Nat.le_of_ble_eq_true rfl) rfl (al_at 292 (by decide +kernel) rfl) dX11_spots_19 (S_cV (ci := 8) C ok_X8_planTour rfl (al_at 606 (by decide +kernel) rfl) (Nat.le_of_ble_eq_true rfl) (Nat.le_of_ble_eq_true rfl) dX11_spots_22 (S_iload_n C dX11_spots_25 rfl (S_iconst C dX11_spots_26 (by decide +kernel) (S_icmpne (tgt := 38) C dX11_spots_27 (by decide) (S_aload_n C dX11_spots_30 rfl (S_getR (ci := 11) (j := 3) C inG11 rfl (Nat.le_of_ble_eq_true rfl) rfl (al_at 292 (by decide +kernel) rfl) dX11_spots_31 (S_getI (ci := 8) (j := 7) C inG8 rfl (Nat.le_of_ble_eq_true rfl) rfl (al_at 218 (by decide +kernel) rfl) dX11_spots_34 (S_iret C hQ hr dX11_spots_37))))))))))
    (S_iload_n C dX11_spots_38 rfl (S_aload_n C dX11_spots_39 rfl (S_getR (ci := 11) (j := 3) C inG11 rfl (Nat.le_of_ble_eq_true rfl) rfl (al_at 292 (by decide +kernel) rfl) dX11_spots_40 (S_getI (ci := 8) (j := 7) C inG8 rfl (Nat.le_of_ble_eq_true rfl) rfl (al_at 218 (by decide +kernel) rfl) dX11_spots_43 (S_icmpge (tgt := 61) C dX11_spots_46 (by decide) (S_aload_n C dX11_spots_49 rfl (S_getR (ci := 11) (j := 3) C inG11 rfl (Nat.le_of_ble_eq_true rfl) rfl (al_at 292 (by decide +kernel) rfl) dX11_spots_50 (S_getR (ci := 8) (j := 6) C inG8 rfl (Nat.le_of_ble_eq_true rfl) rfl (al_at 216 (by decide +kernel) rfl) dX11_spots_53 (S_iload_n C dX11_spots_56 rfl (S_iald C dX11_spots_57 (S_goto (tgt := 67) C dX11_spots_58 (by decide))))))))))))
    (S_aload_n C dX11_spots_61 rfl (S_ldc C dX11_spots_62 (al_at 517 (by decide +kernel) rfl) (S_cV (ci := 11) C ok_X11_finding rfl (al_at 329 (by decide +kernel) rfl) (Nat.le_of_ble_eq_true rfl) (Nat.le_of_ble_eq_true rfl) dX11_spots_64 (fun _ _ _ _ _ _ h9 => h9))))
    (S_iret C hQ hr dX11_spots_67))
theorem dX11_square_0 : decode cX11_square 0 = .ok (.iload_n 1, 1) := by decide +kernel
theorem dX11_square_1 : decode cX11_square 1 = .ok (.invokestatic 74, 3) := by decide +kernel
theorem dX11_square_4 : decode cX11_square 4 = .ok (.ifCond .eq 14, 3) := by decide +kernel
theorem dX11_square_7 : decode cX11_square 7 = .ok (.aload_n 0, 1) := by decide +kernel
theorem dX11_square_8 : decode cX11_square 8 = .ok (.getfield 30, 3) := by decide +kernel
theorem dX11_square_11 : decode cX11_square 11 = .ok (.iload_n 2, 1) := by decide +kernel
theorem dX11_square_12 : decode cX11_square 12 = .ok (.invokevirtual 78, 3) := by decide +kernel
theorem dX11_square_15 : decode cX11_square 15 = .ok (.ifCond .ne 10, 3) := by decide +kernel
theorem dX11_square_18 : decode cX11_square 18 = .ok (.aload_n 0, 1) := by decide +kernel
theorem dX11_square_19 : decode cX11_square 19 = .ok (.ldc 81, 2) := by decide +kernel
theorem dX11_square_21 : decode cX11_square 21 = .ok (.invokevirtual 82, 3) := by decide +kernel
theorem dX11_square_24 : decode cX11_square 24 = .ok (.ireturn, 1) := by decide +kernel
theorem dX11_square_25 : decode cX11_square 25 = .ok (.aload_n 0, 1) := by decide +kernel
theorem dX11_square_26 : decode cX11_square 26 = .ok (.getfield 30, 3) := by decide +kernel
theorem dX11_square_29 : decode cX11_square 29 = .ok (.getfield 86, 3) := by decide +kernel
theorem dX11_square_32 : decode cX11_square 32 = .ok (.iload_n 1, 1) := by decide +kernel
theorem dX11_square_33 : decode cX11_square 33 = .ok (.iaload, 1) := by decide +kernel
theorem dX11_square_34 : decode cX11_square 34 = .ok (.istore_n 3, 1) := by decide +kernel
theorem dX11_square_35 : decode cX11_square 35 = .ok (.aload_n 0, 1) := by decide +kernel
theorem dX11_square_36 : decode cX11_square 36 = .ok (.getfield 30, 3) := by decide +kernel
theorem dX11_square_39 : decode cX11_square 39 = .ok (.iload_n 1, 1) := by decide +kernel
theorem dX11_square_40 : decode cX11_square 40 = .ok (.iload_n 2, 1) := by decide +kernel
theorem dX11_square_41 : decode cX11_square 41 = .ok (.invokevirtual 89, 3) := by decide +kernel
theorem dX11_square_44 : decode cX11_square 44 = .ok (.aload_n 0, 1) := by decide +kernel
theorem dX11_square_45 : decode cX11_square 45 = .ok (.getfield 44, 3) := by decide +kernel
theorem dX11_square_48 : decode cX11_square 48 = .ok (.invokevirtual 93, 3) := by decide +kernel
theorem dX11_square_51 : decode cX11_square 51 = .ok (.iload_n 3, 1) := by decide +kernel
theorem dX11_square_52 : decode cX11_square 52 = .ok (.ireturn, 1) := by decide +kernel
def k_X11_square_0 (F : FT) (Q : QT) : KT := o_iload 1 (o_cS m_X11_isSquare 1 (o_ifeq (F 18) (o_aload 0 (o_getR 11 0 (o_iload 2 (o_cV 9 m_X9_mayBe 2 (o_ifne (F 25) (F 18))))))))
def k_X11_square_18 (F : FT) (Q : QT) : KT := o_aload 0 (o_ic (-1000000001) (o_cV 11 m_X11_finding 2 (o_iret Q)))
def k_X11_square_25 (F : FT) (Q : QT) : KT := o_aload 0 (o_getR 11 0 (o_getR 9 1 (o_iload 1 (o_iald (o_istore 3 (o_aload 0 (o_getR 11 0 (o_iload 1 (o_iload 2 (o_cV 9 m_X9_lay 3 (o_aload 0 (o_getR 11 3 (o_cV 8 m_X8_forget 1 (o_iload 3 (o_iret Q)))))))))))))))
set_option maxRecDepth 20000 in
theorem r_X11_square {a0 : Nat} {a1 : Int32} {a2 : Int32} {n : Nat} {R : RR} {I : II} {J : JJ} {Q : QT} (hn : n + 0 ≤ 90) (h : ∀ F : FT, al_Wk F → al_Ok F (k_X11_square_0 F Q) 0 → al_Ok F (k_X11_square_18 F Q) 18 → al_Ok F (k_X11_square_25 F Q) 25 → F 0 [some (.ref a0), some (.int a1), some (.int a2), none] [] n R I J) : CT m_X11_square 0 [.ref a0, .int a1, .int a2] n R I J Q :=
  CT.of (by decide) hn (fun _ => rfl) (fun _ => Nat.le_of_ble_eq_true rfl) (fun F p l e s m args below meth c Rm t Q0 C hQ hr hm => h F (fun _ _ _ _ _ _ _ _ => S_wk C)
    (S_iload_n C dX11_square_0 rfl (S_cS C ok_X11_isSquare (al_at 321 (by decide +kernel) rfl) (Nat.le_of_ble_eq_true rfl) (Nat.le_of_ble_eq_true rfl) dX11_square_1 (S_ifeq (tgt := 18) C dX11_square_4 (by decide) (S_aload_n C dX11_square_7 rfl (S_getR (ci := 11) (j := 0) C inG11 rfl (Nat.le_of_ble_eq_true rfl) rfl (al_at 289 (by decide +kernel) rfl) dX11_square_8 (S_iload_n C dX11_square_11 rfl (S_cV (ci := 9) C ok_X9_mayBe rfl (al_at 324 (by decide +kernel) rfl) (Nat.le_of_ble_eq_true rfl) (Nat.le_of_ble_eq_true rfl) dX11_square_12 (S_ifne (tgt := 25) C dX11_square_15 (by decide) (fun _ _ _ _ _ _ h9 => h9)))))))))
    (S_aload_n C dX11_square_18 rfl (S_ldc C dX11_square_19 (al_at 328 (by decide +kernel) rfl) (S_cV (ci := 11) C ok_X11_finding rfl (al_at 329 (by decide +kernel) rfl) (Nat.le_of_ble_eq_true rfl) (Nat.le_of_ble_eq_true rfl) dX11_square_21 (S_iret C hQ hr dX11_square_24))))
    (S_aload_n C dX11_square_25 rfl (S_getR (ci := 11) (j := 0) C inG11 rfl (Nat.le_of_ble_eq_true rfl) rfl (al_at 289 (by decide +kernel) rfl) dX11_square_26 (S_getR (ci := 9) (j := 1) C inG9 rfl (Nat.le_of_ble_eq_true rfl) rfl (al_at 175 (by decide +kernel) rfl) dX11_square_29 (S_iload_n C dX11_square_32 rfl (S_iald C dX11_square_33 (S_istore_n C dX11_square_34 rfl (Nat.le_of_ble_eq_true rfl) (S_aload_n C dX11_square_35 rfl (S_getR (ci := 11) (j := 0) C inG11 rfl (Nat.le_of_ble_eq_true rfl) rfl (al_at 289 (by decide +kernel) rfl) dX11_square_36 (S_iload_n C dX11_square_39 rfl (S_iload_n C dX11_square_40 rfl (S_cV (ci := 9) C ok_X9_lay rfl (al_at 333 (by decide +kernel) rfl) (Nat.le_of_ble_eq_true rfl) (Nat.le_of_ble_eq_true rfl) dX11_square_41 (S_aload_n C dX11_square_44 rfl (S_getR (ci := 11) (j := 3) C inG11 rfl (Nat.le_of_ble_eq_true rfl) rfl (al_at 292 (by decide +kernel) rfl) dX11_square_45 (S_cV (ci := 8) C ok_X8_forget rfl (al_at 338 (by decide +kernel) rfl) (Nat.le_of_ble_eq_true rfl) (Nat.le_of_ble_eq_true rfl) dX11_square_48 (S_iload_n C dX11_square_51 rfl (S_iret C hQ hr dX11_square_52)))))))))))))))))
theorem dX11_status_0 : decode cX11_status 0 = .ok (.iload_n 1, 1) := by decide +kernel
theorem dX11_status_1 : decode cX11_status 1 = .ok (.iconst (-1), 1) := by decide +kernel
theorem dX11_status_2 : decode cX11_status 2 = .ok (.if_icmp .lt 9, 3) := by decide +kernel
theorem dX11_status_5 : decode cX11_status 5 = .ok (.iload_n 1, 1) := by decide +kernel
theorem dX11_status_6 : decode cX11_status 6 = .ok (.bipush 7, 2) := by decide +kernel
theorem dX11_status_8 : decode cX11_status 8 = .ok (.if_icmp .lt 10, 3) := by decide +kernel
theorem dX11_status_11 : decode cX11_status 11 = .ok (.aload_n 0, 1) := by decide +kernel
theorem dX11_status_12 : decode cX11_status 12 = .ok (.ldc 81, 2) := by decide +kernel
theorem dX11_status_14 : decode cX11_status 14 = .ok (.invokevirtual 82, 3) := by decide +kernel
theorem dX11_status_17 : decode cX11_status 17 = .ok (.ireturn, 1) := by decide +kernel
theorem dX11_status_18 : decode cX11_status 18 = .ok (.iload_n 1, 1) := by decide +kernel
theorem dX11_status_19 : decode cX11_status 19 = .ok (.ifCond .lt 10, 3) := by decide +kernel
theorem dX11_status_22 : decode cX11_status 22 = .ok (.aload_n 0, 1) := by decide +kernel
theorem dX11_status_23 : decode cX11_status 23 = .ok (.getfield 64, 3) := by decide +kernel
theorem dX11_status_26 : decode cX11_status 26 = .ok (.iload_n 1, 1) := by decide +kernel
theorem dX11_status_27 : decode cX11_status 27 = .ok (.iaload, 1) := by decide +kernel
theorem dX11_status_28 : decode cX11_status 28 = .ok (.ireturn, 1) := by decide +kernel
theorem dX11_status_29 : decode cX11_status 29 = .ok (.iconst 0, 1) := by decide +kernel
theorem dX11_status_30 : decode cX11_status 30 = .ok (.istore_n 2, 1) := by decide +kernel
theorem dX11_status_31 : decode cX11_status 31 = .ok (.iconst 0, 1) := by decide +kernel
theorem dX11_status_32 : decode cX11_status 32 = .ok (.istore_n 3, 1) := by decide +kernel
theorem dX11_status_33 : decode cX11_status 33 = .ok (.iload_n 3, 1) := by decide +kernel
theorem dX11_status_34 : decode cX11_status 34 = .ok (.bipush 7, 2) := by decide +kernel
theorem dX11_status_36 : decode cX11_status 36 = .ok (.if_icmp .ge 18, 3) := by decide +kernel
theorem dX11_status_39 : decode cX11_status 39 = .ok (.iload_n 2, 1) := by decide +kernel
theorem dX11_status_40 : decode cX11_status 40 = .ok (.aload_n 0, 1) := by decide +kernel
theorem dX11_status_41 : decode cX11_status 41 = .ok (.getfield 64, 3) := by decide +kernel
theorem dX11_status_44 : decode cX11_status 44 = .ok (.iload_n 3, 1) := by decide +kernel
theorem dX11_status_45 : decode cX11_status 45 = .ok (.iaload, 1) := by decide +kernel
theorem dX11_status_46 : decode cX11_status 46 = .ok (.iadd, 1) := by decide +kernel
theorem dX11_status_47 : decode cX11_status 47 = .ok (.istore_n 2, 1) := by decide +kernel
theorem dX11_status_48 : decode cX11_status 48 = .ok (.iinc 3 1, 3) := by decide +kernel
theorem dX11_status_51 : decode cX11_status 51 = .ok (.goto (-18), 3) := by decide +kernel
theorem dX11_status_54 : decode cX11_status 54 = .ok (.iload_n 2, 1) := by decide +kernel
theorem dX11_status_55 : decode cX11_status 55 = .ok (.ireturn, 1) := by decide +kernel
def k_X11_status_0 (F : FT) (Q : QT) : KT := o_iload 1 (o_ic (-1) (o_iclt (F 11) (o_iload 1 (o_ic (nI 7) (o_iclt (F 18) (F 11))))))
def k_X11_status_11 (F : FT) (Q : QT) : KT := o_aload 0 (o_ic (-1000000001) (o_cV 11 m_X11_finding 2 (o_iret Q)))
def k_X11_status_18 (F : FT) (Q : QT) : KT := o_iload 1 (o_iflt (F 29) (o_aload 0 (o_getR 11 6 (o_iload 1 (o_iald (o_iret Q))))))
def k_X11_status_29 (F : FT) (Q : QT) : KT := o_ic (nI 0) (o_istore 2 (o_ic (nI 0) (o_istore 3 (F 33))))
def k_X11_status_33 (F : FT) (Q : QT) : KT := o_iload 3 (o_ic (nI 7) (o_icge (F 54) (o_iload 2 (o_aload 0 (o_getR 11 6 (o_iload 3 (o_iald (o_iadd (o_istore 2 (o_iinc 3 (nI 1) (F 33)))))))))))
def k_X11_status_54 (F : FT) (Q : QT) : KT := o_iload 2 (o_iret Q)
set_option maxRecDepth 20000 in
theorem r_X11_status {a0 : Nat} {a1 : Int32} {n : Nat} {R : RR} {I : II} {J : JJ} {Q : QT} (hn : n + 0 ≤ 90) (h : ∀ F : FT, al_Wk F → al_Ok F (k_X11_status_0 F Q) 0 → al_Ok F (k_X11_status_11 F Q) 11 → al_Ok F (k_X11_status_18 F Q) 18 → al_Ok F (k_X11_status_29 F Q) 29 → al_Ok F (k_X11_status_33 F Q) 33 → al_Ok F (k_X11_status_54 F Q) 54 → F 0 [some (.ref a0), some (.int a1), none, none] [] n R I J) : CT m_X11_status 0 [.ref a0, .int a1] n R I J Q :=
  CT.of (by decide) hn (fun _ => rfl) (fun _ => Nat.le_of_ble_eq_true rfl) (fun F p l e s m args below meth c Rm t Q0 C hQ hr hm => h F (fun _ _ _ _ _ _ _ _ => S_wk C)
    (S_iload_n C dX11_status_0 rfl (S_iconst C dX11_status_1 (by decide +kernel) (S_icmplt (tgt := 11) C dX11_status_2 (by decide) (S_iload_n C dX11_status_5 rfl (S_bipush C dX11_status_6 (by decide +kernel) (S_icmplt (tgt := 18) C dX11_status_8 (by decide) (fun _ _ _ _ _ _ h9 => h9)))))))
    (S_aload_n C dX11_status_11 rfl (S_ldc C dX11_status_12 (al_at 328 (by decide +kernel) rfl) (S_cV (ci := 11) C ok_X11_finding rfl (al_at 329 (by decide +kernel) rfl) (Nat.le_of_ble_eq_true rfl) (Nat.le_of_ble_eq_true rfl) dX11_status_14 (S_iret C hQ hr dX11_status_17))))
    (S_iload_n C dX11_status_18 rfl (S_iflt (tgt := 29) C dX11_status_19 (by decide) (S_aload_n C dX11_status_22 rfl (S_getR (ci := 11) (j := 6) C inG11 rfl (Nat.le_of_ble_eq_true rfl) rfl (al_at 295 (by decide +kernel) rfl) dX11_status_23 (S_iload_n C dX11_status_26 rfl (S_iald C dX11_status_27 (S_iret C hQ hr dX11_status_28)))))))
    (S_iconst C dX11_status_29 (by decide +kernel) (S_istore_n C dX11_status_30 rfl (Nat.le_of_ble_eq_true rfl) (S_iconst C dX11_status_31 (by decide +kernel) (S_istore_n C dX11_status_32 rfl (Nat.le_of_ble_eq_true rfl) (fun _ _ _ _ _ _ h9 => h9)))))
    (S_iload_n C dX11_status_33 rfl (S_bipush C dX11_status_34 (by decide +kernel) (S_icmpge (tgt := 54) C dX11_status_36 (by decide) (S_iload_n C dX11_status_39 rfl (S_aload_n C dX11_status_40 rfl (S_getR (ci := 11) (j := 6) C inG11 rfl (Nat.le_of_ble_eq_true rfl) rfl (al_at 295 (by decide +kernel) rfl) dX11_status_41 (S_iload_n C dX11_status_44 rfl (S_iald C dX11_status_45 (S_iadd C dX11_status_46 (S_istore_n C dX11_status_47 rfl (Nat.le_of_ble_eq_true rfl) (S_iinc C dX11_status_48 (by decide +kernel) (Nat.le_of_ble_eq_true rfl) (S_goto (tgt := 33) C dX11_status_51 (by decide)))))))))))))
    (S_iload_n C dX11_status_54 rfl (S_iret C hQ hr dX11_status_55)))
theorem dX11_taxOf_0 : decode cX11_taxOf 0 = .ok (.aload_n 0, 1) := by decide +kernel
theorem dX11_taxOf_1 : decode cX11_taxOf 1 = .ok (.getfield 30, 3) := by decide +kernel
theorem dX11_taxOf_4 : decode cX11_taxOf 4 = .ok (.getfield 114, 3) := by decide +kernel
theorem dX11_taxOf_7 : decode cX11_taxOf 7 = .ok (.iload_n 1, 1) := by decide +kernel
theorem dX11_taxOf_8 : decode cX11_taxOf 8 = .ok (.aaload, 1) := by decide +kernel
theorem dX11_taxOf_9 : decode cX11_taxOf 9 = .ok (.getfield 123, 3) := by decide +kernel
theorem dX11_taxOf_12 : decode cX11_taxOf 12 = .ok (.aload_n 0, 1) := by decide +kernel
theorem dX11_taxOf_13 : decode cX11_taxOf 13 = .ok (.getfield 44, 3) := by decide +kernel
theorem dX11_taxOf_16 : decode cX11_taxOf 16 = .ok (.iload_n 1, 1) := by decide +kernel
theorem dX11_taxOf_17 : decode cX11_taxOf 17 = .ok (.invokevirtual 201, 3) := by decide +kernel
theorem dX11_taxOf_20 : decode cX11_taxOf 20 = .ok (.imul, 1) := by decide +kernel
theorem dX11_taxOf_21 : decode cX11_taxOf 21 = .ok (.ireturn, 1) := by decide +kernel
def k_X11_taxOf_0 (F : FT) (Q : QT) : KT := o_aload 0 (o_getR 11 0 (o_getR 9 2 (o_iload 1 (o_aald 4 (o_getI 2 1 (o_aload 0 (o_getR 11 3 (o_iload 1 (o_cV 8 m_X8_countsOf 2 (o_imul (o_iret Q)))))))))))
set_option maxRecDepth 20000 in
theorem r_X11_taxOf {a0 : Nat} {a1 : Int32} {n : Nat} {R : RR} {I : II} {J : JJ} {Q : QT} (hn : n + 0 ≤ 90) (h : ∀ F : FT, al_Wk F → al_Ok F (k_X11_taxOf_0 F Q) 0 → F 0 [some (.ref a0), some (.int a1)] [] n R I J) : CT m_X11_taxOf 0 [.ref a0, .int a1] n R I J Q :=
  CT.of (by decide) hn (fun _ => rfl) (fun _ => Nat.le_of_ble_eq_true rfl) (fun F p l e s m args below meth c Rm t Q0 C hQ hr hm => h F (fun _ _ _ _ _ _ _ _ => S_wk C)
    (S_aload_n C dX11_taxOf_0 rfl (S_getR (ci := 11) (j := 0) C inG11 rfl (Nat.le_of_ble_eq_true rfl) rfl (al_at 289 (by decide +kernel) rfl) dX11_taxOf_1 (S_getR (ci := 9) (j := 2) C inG9 rfl (Nat.le_of_ble_eq_true rfl) rfl (al_at 178 (by decide +kernel) rfl) dX11_taxOf_4 (S_iload_n C dX11_taxOf_7 rfl (S_aald (ak := 4) C (fun _ _ _ _ _ _ => rfl) (fun _ => rfl) dX11_taxOf_8 (S_getI (ci := 2) (j := 1) C inG2 rfl (Nat.le_of_ble_eq_true rfl) rfl (al_at 149 (by decide +kernel) rfl) dX11_taxOf_9 (S_aload_n C dX11_taxOf_12 rfl (S_getR (ci := 11) (j := 3) C inG11 rfl (Nat.le_of_ble_eq_true rfl) rfl (al_at 292 (by decide +kernel) rfl) dX11_taxOf_13 (S_iload_n C dX11_taxOf_16 rfl (S_cV (ci := 8) C ok_X8_countsOf rfl (al_at 393 (by decide +kernel) rfl) (Nat.le_of_ble_eq_true rfl) (Nat.le_of_ble_eq_true rfl) dX11_taxOf_17 (S_imul C dX11_taxOf_20 (S_iret C hQ hr dX11_taxOf_21)))))))))))))
theorem dX11_tear_0 : decode cX11_tear 0 = .ok (.aload_n 0, 1) := by decide +kernel
theorem dX11_tear_1 : decode cX11_tear 1 = .ok (.getfield 259, 3) := by decide +kernel
theorem dX11_tear_4 : decode cX11_tear 4 = .ok (.ifCond .eq 7, 3) := by decide +kernel
theorem dX11_tear_7 : decode cX11_tear 7 = .ok (.iconst 1, 1) := by decide +kernel
theorem dX11_tear_8 : decode cX11_tear 8 = .ok (.goto 4, 3) := by decide +kernel
theorem dX11_tear_11 : decode cX11_tear 11 = .ok (.iconst 0, 1) := by decide +kernel
theorem dX11_tear_12 : decode cX11_tear 12 = .ok (.istore_n 1, 1) := by decide +kernel
theorem dX11_tear_13 : decode cX11_tear 13 = .ok (.aload_n 0, 1) := by decide +kernel
theorem dX11_tear_14 : decode cX11_tear 14 = .ok (.iconst 0, 1) := by decide +kernel
theorem dX11_tear_15 : decode cX11_tear 15 = .ok (.putfield 259, 3) := by decide +kernel
theorem dX11_tear_18 : decode cX11_tear 18 = .ok (.iload_n 1, 1) := by decide +kernel
theorem dX11_tear_19 : decode cX11_tear 19 = .ok (.ireturn, 1) := by decide +kernel
def k_X11_tear_0 (F : FT) (Q : QT) : KT := o_aload 0 (o_getI 11 2 (o_ifeq (F 11) (o_ic (nI 1) (F 12))))
def k_X11_tear_11 (F : FT) (Q : QT) : KT := o_ic (nI 0) (F 12)
def k_X11_tear_12 (F : FT) (Q : QT) : KT := o_istore 1 (o_aload 0 (o_ic (nI 0) (o_putZ 11 2 (o_iload 1 (o_iret Q)))))
set_option maxRecDepth 20000 in
theorem r_X11_tear {a0 : Nat} {n : Nat} {R : RR} {I : II} {J : JJ} {Q : QT} (hn : n + 0 ≤ 90) (h : ∀ F : FT, al_Wk F → al_Ok F (k_X11_tear_0 F Q) 0 → al_Ok F (k_X11_tear_11 F Q) 11 → al_Ok F (k_X11_tear_12 F Q) 12 → F 0 [some (.ref a0), none] [] n R I J) : CT m_X11_tear 0 [.ref a0] n R I J Q :=
  CT.of (by decide) hn (fun _ => rfl) (fun _ => Nat.le_of_ble_eq_true rfl) (fun F p l e s m args below meth c Rm t Q0 C hQ hr hm => h F (fun _ _ _ _ _ _ _ _ => S_wk C)
    (S_aload_n C dX11_tear_0 rfl (S_getZ (ci := 11) (j := 2) C inG11 rfl (Nat.le_of_ble_eq_true rfl) rfl (al_at 291 (by decide +kernel) rfl) dX11_tear_1 (S_ifeq (tgt := 11) C dX11_tear_4 (by decide) (S_iconst C dX11_tear_7 (by decide +kernel) (S_goto (tgt := 12) C dX11_tear_8 (by decide))))))
    (S_iconst C dX11_tear_11 (by decide +kernel) (fun _ _ _ _ _ _ h9 => h9))
    (S_istore_n C dX11_tear_12 rfl (Nat.le_of_ble_eq_true rfl) (S_aload_n C dX11_tear_13 rfl (S_iconst C dX11_tear_14 (by decide +kernel) (S_putZ (ci := 11) (j := 2) C inG11 rfl (Nat.le_of_ble_eq_true rfl) tyX11 tyX11_ok nmX11 rfl rfl (tyX11_ok 2 (Nat.le_of_ble_eq_true rfl)) (al_at 291 (by decide +kernel) rfl) dX11_tear_15 (S_iload_n C dX11_tear_18 rfl (S_iret C hQ hr dX11_tear_19)))))))
theorem dX11_town_0 : decode cX11_town 0 = .ok (.aload_n 0, 1) := by decide +kernel
theorem dX11_town_1 : decode cX11_town 1 = .ok (.getfield 53, 3) := by decide +kernel
theorem dX11_town_4 : decode cX11_town 4 = .ok (.invokevirtual 216, 3) := by decide +kernel
theorem dX11_town_7 : decode cX11_town 7 = .ok (.istore_n 1, 1) := by decide +kernel
theorem dX11_town_8 : decode cX11_town 8 = .ok (.aload_n 0, 1) := by decide +kernel
theorem dX11_town_9 : decode cX11_town 9 = .ok (.getfield 53, 3) := by decide +kernel
theorem dX11_town_12 : decode cX11_town 12 = .ok (.iconst 0, 1) := by decide +kernel
theorem dX11_town_13 : decode cX11_town 13 = .ok (.putfield 210, 3) := by decide +kernel
theorem dX11_town_16 : decode cX11_town 16 = .ok (.aload_n 0, 1) := by decide +kernel
theorem dX11_town_17 : decode cX11_town 17 = .ok (.getfield 44, 3) := by decide +kernel
theorem dX11_town_20 : decode cX11_town 20 = .ok (.invokevirtual 93, 3) := by decide +kernel
theorem dX11_town_23 : decode cX11_town 23 = .ok (.iload_n 1, 1) := by decide +kernel
theorem dX11_town_24 : decode cX11_town 24 = .ok (.ireturn, 1) := by decide +kernel
def k_X11_town_0 (F : FT) (Q : QT) : KT := o_aload 0 (o_getR 11 4 (o_cV 10 m_X10_perform 1 (o_istore 1 (o_aload 0 (o_getR 11 4 (o_ic (nI 0) (o_putI 10 3 (o_aload 0 (o_getR 11 3 (o_cV 8 m_X8_forget 1 (o_iload 1 (o_iret Q))))))))))))
set_option maxRecDepth 20000 in
theorem r_X11_town {a0 : Nat} {n : Nat} {R : RR} {I : II} {J : JJ} {Q : QT} (hn : n + 0 ≤ 90) (h : ∀ F : FT, al_Wk F → al_Ok F (k_X11_town_0 F Q) 0 → F 0 [some (.ref a0), none] [] n R I J) : CT m_X11_town 0 [.ref a0] n R I J Q :=
  CT.of (by decide) hn (fun _ => rfl) (fun _ => Nat.le_of_ble_eq_true rfl) (fun F p l e s m args below meth c Rm t Q0 C hQ hr hm => h F (fun _ _ _ _ _ _ _ _ => S_wk C)
    (S_aload_n C dX11_town_0 rfl (S_getR (ci := 11) (j := 4) C inG11 rfl (Nat.le_of_ble_eq_true rfl) rfl (al_at 293 (by decide +kernel) rfl) dX11_town_1 (S_cV (ci := 10) C ok_X10_perform rfl (al_at 680 (by decide +kernel) rfl) (Nat.le_of_ble_eq_true rfl) (Nat.le_of_ble_eq_true rfl) dX11_town_4 (S_istore_n C dX11_town_7 rfl (Nat.le_of_ble_eq_true rfl) (S_aload_n C dX11_town_8 rfl (S_getR (ci := 11) (j := 4) C inG11 rfl (Nat.le_of_ble_eq_true rfl) rfl (al_at 293 (by decide +kernel) rfl) dX11_town_9 (S_iconst C dX11_town_12 (by decide +kernel) (S_putI (ci := 10) (j := 3) C inG10 rfl (Nat.le_of_ble_eq_true rfl) tyX10 tyX10_ok nmX10 rfl rfl (tyX10_ok 3 (Nat.le_of_ble_eq_true rfl)) (al_at 247 (by decide +kernel) rfl) dX11_town_13 (S_aload_n C dX11_town_16 rfl (S_getR (ci := 11) (j := 3) C inG11 rfl (Nat.le_of_ble_eq_true rfl) rfl (al_at 292 (by decide +kernel) rfl) dX11_town_17 (S_cV (ci := 8) C ok_X8_forget rfl (al_at 338 (by decide +kernel) rfl) (Nat.le_of_ble_eq_true rfl) (Nat.le_of_ble_eq_true rfl) dX11_town_20 (S_iload_n C dX11_town_23 rfl (S_iret C hQ hr dX11_town_24))))))))))))))
theorem dX11_turn_0 : decode cX11_turn 0 = .ok (.aload_n 0, 1) := by decide +kernel
theorem dX11_turn_1 : decode cX11_turn 1 = .ok (.iload_n 1, 1) := by decide +kernel
theorem dX11_turn_2 : decode cX11_turn 2 = .ok (.invokevirtual 111, 3) := by decide +kernel
theorem dX11_turn_5 : decode cX11_turn 5 = .ok (.ifCond .eq 10, 3) := by decide +kernel
theorem dX11_turn_8 : decode cX11_turn 8 = .ok (.iload_n 2, 1) := by decide +kernel
theorem dX11_turn_9 : decode cX11_turn 9 = .ok (.invokestatic 96, 3) := by decide +kernel
theorem dX11_turn_12 : decode cX11_turn 12 = .ok (.ifCond .ne 10, 3) := by decide +kernel
theorem dX11_turn_15 : decode cX11_turn 15 = .ok (.aload_n 0, 1) := by decide +kernel
theorem dX11_turn_16 : decode cX11_turn 16 = .ok (.ldc 81, 2) := by decide +kernel
theorem dX11_turn_18 : decode cX11_turn 18 = .ok (.invokevirtual 82, 3) := by decide +kernel
theorem dX11_turn_21 : decode cX11_turn 21 = .ok (.ireturn, 1) := by decide +kernel
theorem dX11_turn_22 : decode cX11_turn 22 = .ok (.aload_n 0, 1) := by decide +kernel
theorem dX11_turn_23 : decode cX11_turn 23 = .ok (.getfield 30, 3) := by decide +kernel
theorem dX11_turn_26 : decode cX11_turn 26 = .ok (.getfield 114, 3) := by decide +kernel
theorem dX11_turn_29 : decode cX11_turn 29 = .ok (.iload_n 1, 1) := by decide +kernel
theorem dX11_turn_30 : decode cX11_turn 30 = .ok (.aaload, 1) := by decide +kernel
theorem dX11_turn_31 : decode cX11_turn 31 = .ok (.astore_n 3, 1) := by decide +kernel
theorem dX11_turn_32 : decode cX11_turn 32 = .ok (.aload_n 3, 1) := by decide +kernel
theorem dX11_turn_33 : decode cX11_turn 33 = .ok (.getfield 118, 3) := by decide +kernel
theorem dX11_turn_36 : decode cX11_turn 36 = .ok (.istore 4, 2) := by decide +kernel
theorem dX11_turn_38 : decode cX11_turn 38 = .ok (.aload_n 3, 1) := by decide +kernel
theorem dX11_turn_39 : decode cX11_turn 39 = .ok (.iload_n 2, 1) := by decide +kernel
theorem dX11_turn_40 : decode cX11_turn 40 = .ok (.putfield 118, 3) := by decide +kernel
theorem dX11_turn_43 : decode cX11_turn 43 = .ok (.iload 4, 2) := by decide +kernel
theorem dX11_turn_45 : decode cX11_turn 45 = .ok (.ireturn, 1) := by decide +kernel
def k_X11_turn_0 (F : FT) (Q : QT) : KT := o_aload 0 (o_iload 1 (o_cV 11 m_X11_isHouse 2 (o_ifeq (F 15) (o_iload 2 (o_cS m_X11_isKind 1 (o_ifne (F 22) (F 15)))))))
def k_X11_turn_15 (F : FT) (Q : QT) : KT := o_aload 0 (o_ic (-1000000001) (o_cV 11 m_X11_finding 2 (o_iret Q)))
def k_X11_turn_22 (F : FT) (Q : QT) : KT := o_aload 0 (o_getR 11 0 (o_getR 9 2 (o_iload 1 (o_aald 4 (o_astore 3 (o_aload 3 (o_getI 2 0 (o_istore 4 (o_aload 3 (o_iload 2 (o_putI 2 0 (o_iload 4 (o_iret Q)))))))))))))
set_option maxRecDepth 20000 in
theorem r_X11_turn {a0 : Nat} {a1 : Int32} {a2 : Int32} {n : Nat} {R : RR} {I : II} {J : JJ} {Q : QT} (hn : n + 0 ≤ 90) (h : ∀ F : FT, al_Wk F → al_Ok F (k_X11_turn_0 F Q) 0 → al_Ok F (k_X11_turn_15 F Q) 15 → al_Ok F (k_X11_turn_22 F Q) 22 → F 0 [some (.ref a0), some (.int a1), some (.int a2), none, none] [] n R I J) : CT m_X11_turn 0 [.ref a0, .int a1, .int a2] n R I J Q :=
  CT.of (by decide) hn (fun _ => rfl) (fun _ => Nat.le_of_ble_eq_true rfl) (fun F p l e s m args below meth c Rm t Q0 C hQ hr hm => h F (fun _ _ _ _ _ _ _ _ => S_wk C)
    (S_aload_n C dX11_turn_0 rfl (S_iload_n C dX11_turn_1 rfl (S_cV (ci := 11) C ok_X11_isHouse rfl (al_at 369 (by decide +kernel) rfl) (Nat.le_of_ble_eq_true rfl) (Nat.le_of_ble_eq_true rfl) dX11_turn_2 (S_ifeq (tgt := 15) C dX11_turn_5 (by decide) (S_iload_n C dX11_turn_8 rfl (S_cS C ok_X11_isKind (al_at 350 (by decide +kernel) rfl) (Nat.le_of_ble_eq_true rfl) (Nat.le_of_ble_eq_true rfl) dX11_turn_9 (S_ifne (tgt := 22) C dX11_turn_12 (by decide) (fun _ _ _ _ _ _ h9 => h9))))))))
    (S_aload_n C dX11_turn_15 rfl (S_ldc C dX11_turn_16 (al_at 328 (by decide +kernel) rfl) (S_cV (ci := 11) C ok_X11_finding rfl (al_at 329 (by decide +kernel) rfl) (Nat.le_of_ble_eq_true rfl) (Nat.le_of_ble_eq_true rfl) dX11_turn_18 (S_iret C hQ hr dX11_turn_21))))
    (S_aload_n C dX11_turn_22 rfl (S_getR (ci := 11) (j := 0) C inG11 rfl (Nat.le_of_ble_eq_true rfl) rfl (al_at 289 (by decide +kernel) rfl) dX11_turn_23 (S_getR (ci := 9) (j := 2) C inG9 rfl (Nat.le_of_ble_eq_true rfl) rfl (al_at 178 (by decide +kernel) rfl) dX11_turn_26 (S_iload_n C dX11_turn_29 rfl (S_aald (ak := 4) C (fun _ _ _ _ _ _ => rfl) (fun _ => rfl) dX11_turn_30 (S_astore_n C dX11_turn_31 rfl (Nat.le_of_ble_eq_true rfl) (S_aload_n C dX11_turn_32 rfl (S_getI (ci := 2) (j := 0) C inG2 rfl (Nat.le_of_ble_eq_true rfl) rfl (al_at 147 (by decide +kernel) rfl) dX11_turn_33 (S_istore C dX11_turn_36 (Nat.le_of_ble_eq_true rfl) (S_aload_n C dX11_turn_38 rfl (S_iload_n C dX11_turn_39 rfl (S_putI (ci := 2) (j := 0) C inG2 rfl (Nat.le_of_ble_eq_true rfl) tyX2 tyX2_ok nmX2 rfl rfl (tyX2_ok 0 (Nat.le_of_ble_eq_true rfl)) (al_at 147 (by decide +kernel) rfl) dX11_turn_40 (S_iload C dX11_turn_43 (S_iret C hQ hr dX11_turn_45)))))))))))))))
theorem dX11_undo_0 : decode cX11_undo 0 = .ok (.aload_n 0, 1) := by decide +kernel
theorem dX11_undo_1 : decode cX11_undo 1 = .ok (.getfield 259, 3) := by decide +kernel
theorem dX11_undo_4 : decode cX11_undo 4 = .ok (.ifCond .ne 10, 3) := by decide +kernel
theorem dX11_undo_7 : decode cX11_undo 7 = .ok (.aload_n 0, 1) := by decide +kernel
theorem dX11_undo_8 : decode cX11_undo 8 = .ok (.ldc 164, 2) := by decide +kernel
theorem dX11_undo_10 : decode cX11_undo 10 = .ok (.invokevirtual 82, 3) := by decide +kernel
theorem dX11_undo_13 : decode cX11_undo 13 = .ok (.ireturn, 1) := by decide +kernel
theorem dX11_undo_14 : decode cX11_undo 14 = .ok (.aload_n 0, 1) := by decide +kernel
theorem dX11_undo_15 : decode cX11_undo 15 = .ok (.getfield 30, 3) := by decide +kernel
theorem dX11_undo_18 : decode cX11_undo 18 = .ok (.aload_n 0, 1) := by decide +kernel
theorem dX11_undo_19 : decode cX11_undo 19 = .ok (.getfield 36, 3) := by decide +kernel
theorem dX11_undo_22 : decode cX11_undo 22 = .ok (.invokevirtual 257, 3) := by decide +kernel
theorem dX11_undo_25 : decode cX11_undo 25 = .ok (.aload_n 0, 1) := by decide +kernel
theorem dX11_undo_26 : decode cX11_undo 26 = .ok (.getfield 44, 3) := by decide +kernel
theorem dX11_undo_29 : decode cX11_undo 29 = .ok (.invokevirtual 93, 3) := by decide +kernel
theorem dX11_undo_32 : decode cX11_undo 32 = .ok (.aload_n 0, 1) := by decide +kernel
theorem dX11_undo_33 : decode cX11_undo 33 = .ok (.getfield 30, 3) := by decide +kernel
theorem dX11_undo_36 : decode cX11_undo 36 = .ok (.getfield 102, 3) := by decide +kernel
theorem dX11_undo_39 : decode cX11_undo 39 = .ok (.ireturn, 1) := by decide +kernel
def k_X11_undo_0 (F : FT) (Q : QT) : KT := o_aload 0 (o_getI 11 2 (o_ifne (F 14) (o_aload 0 (o_ic (-1000000004) (o_cV 11 m_X11_finding 2 (o_iret Q))))))
def k_X11_undo_14 (F : FT) (Q : QT) : KT := o_aload 0 (o_getR 11 0 (o_aload 0 (o_getR 11 1 (o_cV 9 m_X9_become 2 (o_aload 0 (o_getR 11 3 (o_cV 8 m_X8_forget 1 (o_aload 0 (o_getR 11 0 (o_getI 9 3 (o_iret Q)))))))))))
set_option maxRecDepth 20000 in
theorem r_X11_undo {a0 : Nat} {n : Nat} {R : RR} {I : II} {J : JJ} {Q : QT} (hn : n + 0 ≤ 90) (h : ∀ F : FT, al_Wk F → al_Ok F (k_X11_undo_0 F Q) 0 → al_Ok F (k_X11_undo_14 F Q) 14 → F 0 [some (.ref a0)] [] n R I J) : CT m_X11_undo 0 [.ref a0] n R I J Q :=
  CT.of (by decide) hn (fun _ => rfl) (fun _ => Nat.le_of_ble_eq_true rfl) (fun F p l e s m args below meth c Rm t Q0 C hQ hr hm => h F (fun _ _ _ _ _ _ _ _ => S_wk C)
    (S_aload_n C dX11_undo_0 rfl (S_getZ (ci := 11) (j := 2) C inG11 rfl (Nat.le_of_ble_eq_true rfl) rfl (al_at 291 (by decide +kernel) rfl) dX11_undo_1 (S_ifne (tgt := 14) C dX11_undo_4 (by decide) (S_aload_n C dX11_undo_7 rfl (S_ldc C dX11_undo_8 (al_at 517 (by decide +kernel) rfl) (S_cV (ci := 11) C ok_X11_finding rfl (al_at 329 (by decide +kernel) rfl) (Nat.le_of_ble_eq_true rfl) (Nat.le_of_ble_eq_true rfl) dX11_undo_10 (S_iret C hQ hr dX11_undo_13)))))))
    (S_aload_n C dX11_undo_14 rfl (S_getR (ci := 11) (j := 0) C inG11 rfl (Nat.le_of_ble_eq_true rfl) rfl (al_at 289 (by decide +kernel) rfl) dX11_undo_15 (S_aload_n C dX11_undo_18 rfl (S_getR (ci := 11) (j := 1) C inG11 rfl (Nat.le_of_ble_eq_true rfl) rfl (al_at 290 (by decide +kernel) rfl) dX11_undo_19 (S_cV (ci := 9) C ok_X9_become rfl (al_at 879 (by decide +kernel) rfl) (Nat.le_of_ble_eq_true rfl) (Nat.le_of_ble_eq_true rfl) dX11_undo_22 (S_aload_n C dX11_undo_25 rfl (S_getR (ci := 11) (j := 3) C inG11 rfl (Nat.le_of_ble_eq_true rfl) rfl (al_at 292 (by decide +kernel) rfl) dX11_undo_26 (S_cV (ci := 8) C ok_X8_forget rfl (al_at 338 (by decide +kernel) rfl) (Nat.le_of_ble_eq_true rfl) (Nat.le_of_ble_eq_true rfl) dX11_undo_29 (S_aload_n C dX11_undo_32 rfl (S_getR (ci := 11) (j := 0) C inG11 rfl (Nat.le_of_ble_eq_true rfl) rfl (al_at 289 (by decide +kernel) rfl) dX11_undo_33 (S_getI (ci := 9) (j := 3) C inG9 rfl (Nat.le_of_ble_eq_true rfl) rfl (al_at 181 (by decide +kernel) rfl) dX11_undo_36 (S_iret C hQ hr dX11_undo_39)))))))))))))
theorem dX11_whose_0 : decode cX11_whose 0 = .ok (.iload_n 1, 1) := by decide +kernel
theorem dX11_whose_1 : decode cX11_whose 1 = .ok (.invokestatic 155, 3) := by decide +kernel
theorem dX11_whose_4 : decode cX11_whose 4 = .ok (.ifCond .ne 10, 3) := by decide +kernel
theorem dX11_whose_7 : decode cX11_whose 7 = .ok (.aload_n 0, 1) := by decide +kernel
theorem dX11_whose_8 : decode cX11_whose 8 = .ok (.ldc 81, 2) := by decide +kernel
theorem dX11_whose_10 : decode cX11_whose 10 = .ok (.invokevirtual 82, 3) := by decide +kernel
theorem dX11_whose_13 : decode cX11_whose 13 = .ok (.ireturn, 1) := by decide +kernel
theorem dX11_whose_14 : decode cX11_whose 14 = .ok (.aload_n 0, 1) := by decide +kernel
theorem dX11_whose_15 : decode cX11_whose 15 = .ok (.getfield 30, 3) := by decide +kernel
theorem dX11_whose_18 : decode cX11_whose 18 = .ok (.iload_n 1, 1) := by decide +kernel
theorem dX11_whose_19 : decode cX11_whose 19 = .ok (.invokevirtual 176, 3) := by decide +kernel
theorem dX11_whose_22 : decode cX11_whose 22 = .ok (.ireturn, 1) := by decide +kernel
def k_X11_whose_0 (F : FT) (Q : QT) : KT := o_iload 1 (o_cS m_X11_isPoint 1 (o_ifne (F 14) (o_aload 0 (o_ic (-1000000001) (o_cV 11 m_X11_finding 2 (o_iret Q))))))
def k_X11_whose_14 (F : FT) (Q : QT) : KT := o_aload 0 (o_getR 11 0 (o_iload 1 (o_cV 9 m_X9_ownersAt 2 (o_iret Q))))
set_option maxRecDepth 20000 in
theorem r_X11_whose {a0 : Nat} {a1 : Int32} {n : Nat} {R : RR} {I : II} {J : JJ} {Q : QT} (hn : n + 0 ≤ 90) (h : ∀ F : FT, al_Wk F → al_Ok F (k_X11_whose_0 F Q) 0 → al_Ok F (k_X11_whose_14 F Q) 14 → F 0 [some (.ref a0), some (.int a1)] [] n R I J) : CT m_X11_whose 0 [.ref a0, .int a1] n R I J Q :=
  CT.of (by decide) hn (fun _ => rfl) (fun _ => Nat.le_of_ble_eq_true rfl) (fun F p l e s m args below meth c Rm t Q0 C hQ hr hm => h F (fun _ _ _ _ _ _ _ _ => S_wk C)
    (S_iload_n C dX11_whose_0 rfl (S_cS C ok_X11_isPoint (al_at 505 (by decide +kernel) rfl) (Nat.le_of_ble_eq_true rfl) (Nat.le_of_ble_eq_true rfl) dX11_whose_1 (S_ifne (tgt := 14) C dX11_whose_4 (by decide) (S_aload_n C dX11_whose_7 rfl (S_ldc C dX11_whose_8 (al_at 328 (by decide +kernel) rfl) (S_cV (ci := 11) C ok_X11_finding rfl (al_at 329 (by decide +kernel) rfl) (Nat.le_of_ble_eq_true rfl) (Nat.le_of_ble_eq_true rfl) dX11_whose_10 (S_iret C hQ hr dX11_whose_13)))))))
    (S_aload_n C dX11_whose_14 rfl (S_getR (ci := 11) (j := 0) C inG11 rfl (Nat.le_of_ble_eq_true rfl) rfl (al_at 289 (by decide +kernel) rfl) dX11_whose_15 (S_iload_n C dX11_whose_18 rfl (S_cV (ci := 9) C ok_X9_ownersAt rfl (al_at 541 (by decide +kernel) rfl) (Nat.le_of_ble_eq_true rfl) (Nat.le_of_ble_eq_true rfl) dX11_whose_19 (S_iret C hQ hr dX11_whose_22))))))
theorem dX11_widened_0 : decode cX11_widened 0 = .ok (.iconst 0, 1) := by decide +kernel
theorem dX11_widened_1 : decode cX11_widened 1 = .ok (.istore_n 1, 1) := by decide +kernel
theorem dX11_widened_2 : decode cX11_widened 2 = .ok (.iconst 0, 1) := by decide +kernel
theorem dX11_widened_3 : decode cX11_widened 3 = .ok (.istore_n 2, 1) := by decide +kernel
theorem dX11_widened_4 : decode cX11_widened 4 = .ok (.iload_n 2, 1) := by decide +kernel
theorem dX11_widened_5 : decode cX11_widened 5 = .ok (.iconst 3, 1) := by decide +kernel
theorem dX11_widened_6 : decode cX11_widened 6 = .ok (.if_icmp .ge 26, 3) := by decide +kernel
theorem dX11_widened_9 : decode cX11_widened 9 = .ok (.iload_n 0, 1) := by decide +kernel
theorem dX11_widened_10 : decode cX11_widened 10 = .ok (.iconst 4, 1) := by decide +kernel
theorem dX11_widened_11 : decode cX11_widened 11 = .ok (.iload_n 2, 1) := by decide +kernel
theorem dX11_widened_12 : decode cX11_widened 12 = .ok (.imul, 1) := by decide +kernel
theorem dX11_widened_13 : decode cX11_widened 13 = .ok (.ishr, 1) := by decide +kernel
theorem dX11_widened_14 : decode cX11_widened 14 = .ok (.bipush 15, 2) := by decide +kernel
theorem dX11_widened_16 : decode cX11_widened 16 = .ok (.iand, 1) := by decide +kernel
theorem dX11_widened_17 : decode cX11_widened 17 = .ok (.istore_n 3, 1) := by decide +kernel
theorem dX11_widened_18 : decode cX11_widened 18 = .ok (.iload_n 1, 1) := by decide +kernel
theorem dX11_widened_19 : decode cX11_widened 19 = .ok (.iload_n 3, 1) := by decide +kernel
theorem dX11_widened_20 : decode cX11_widened 20 = .ok (.iconst 5, 1) := by decide +kernel
theorem dX11_widened_21 : decode cX11_widened 21 = .ok (.iload_n 2, 1) := by decide +kernel
theorem dX11_widened_22 : decode cX11_widened 22 = .ok (.imul, 1) := by decide +kernel
theorem dX11_widened_23 : decode cX11_widened 23 = .ok (.ishl, 1) := by decide +kernel
theorem dX11_widened_24 : decode cX11_widened 24 = .ok (.ior, 1) := by decide +kernel
theorem dX11_widened_25 : decode cX11_widened 25 = .ok (.istore_n 1, 1) := by decide +kernel
theorem dX11_widened_26 : decode cX11_widened 26 = .ok (.iinc 2 1, 3) := by decide +kernel
theorem dX11_widened_29 : decode cX11_widened 29 = .ok (.goto (-25), 3) := by decide +kernel
theorem dX11_widened_32 : decode cX11_widened 32 = .ok (.iload_n 1, 1) := by decide +kernel
theorem dX11_widened_33 : decode cX11_widened 33 = .ok (.ireturn, 1) := by decide +kernel
def k_X11_widened_0 (F : FT) (Q : QT) : KT := o_ic (nI 0) (o_istore 1 (o_ic (nI 0) (o_istore 2 (F 4))))
def k_X11_widened_4 (F : FT) (Q : QT) : KT := o_iload 2 (o_ic (nI 3) (o_icge (F 32) (o_iload 0 (o_ic (nI 4) (o_iload 2 (o_imul (o_ishr (o_ic (nI 15) (o_iand (o_istore 3 (o_iload 1 (o_iload 3 (o_ic (nI 5) (o_iload 2 (o_imul (o_ishl (o_ior (o_istore 1 (o_iinc 2 (nI 1) (F 4))))))))))))))))))))
def k_X11_widened_32 (F : FT) (Q : QT) : KT := o_iload 1 (o_iret Q)
set_option maxRecDepth 20000 in
theorem r_X11_widened {a0 : Int32} {n : Nat} {R : RR} {I : II} {J : JJ} {Q : QT} (hn : n + 0 ≤ 90) (h : ∀ F : FT, al_Wk F → al_Ok F (k_X11_widened_0 F Q) 0 → al_Ok F (k_X11_widened_4 F Q) 4 → al_Ok F (k_X11_widened_32 F Q) 32 → F 0 [some (.int a0), none, none, none] [] n R I J) : CT m_X11_widened 0 [.int a0] n R I J Q :=
  CT.of (by decide) hn (fun _ => rfl) (fun _ => Nat.le_of_ble_eq_true rfl) (fun F p l e s m args below meth c Rm t Q0 C hQ hr hm => h F (fun _ _ _ _ _ _ _ _ => S_wk C)
    (S_iconst C dX11_widened_0 (by decide +kernel) (S_istore_n C dX11_widened_1 rfl (Nat.le_of_ble_eq_true rfl) (S_iconst C dX11_widened_2 (by decide +kernel) (S_istore_n C dX11_widened_3 rfl (Nat.le_of_ble_eq_true rfl) (fun _ _ _ _ _ _ h9 => h9)))))
    (S_iload_n C dX11_widened_4 rfl (S_iconst C dX11_widened_5 (by decide +kernel) (S_icmpge (tgt := 32) C dX11_widened_6 (by decide) (S_iload_n C dX11_widened_9 rfl (S_iconst C dX11_widened_10 (by decide +kernel) (S_iload_n C dX11_widened_11 rfl (S_imul C dX11_widened_12 (S_ishr C dX11_widened_13 (S_bipush C dX11_widened_14 (by decide +kernel) (S_iand C dX11_widened_16 (S_istore_n C dX11_widened_17 rfl (Nat.le_of_ble_eq_true rfl) (S_iload_n C dX11_widened_18 rfl (S_iload_n C dX11_widened_19 rfl (S_iconst C dX11_widened_20 (by decide +kernel) (S_iload_n C dX11_widened_21 rfl (S_imul C dX11_widened_22 (S_ishl C dX11_widened_23 (S_ior C dX11_widened_24 (S_istore_n C dX11_widened_25 rfl (Nat.le_of_ble_eq_true rfl) (S_iinc C dX11_widened_26 (by decide +kernel) (Nat.le_of_ble_eq_true rfl) (S_goto (tgt := 4) C dX11_widened_29 (by decide))))))))))))))))))))))
    (S_iload_n C dX11_widened_32 rfl (S_iret C hQ hr dX11_widened_33)))
theorem dX11_wipe_0 : decode cX11_wipe 0 = .ok (.aload_n 0, 1) := by decide +kernel
theorem dX11_wipe_1 : decode cX11_wipe 1 = .ok (.getfield 53, 3) := by decide +kernel
theorem dX11_wipe_4 : decode cX11_wipe 4 = .ok (.getfield 210, 3) := by decide +kernel
theorem dX11_wipe_7 : decode cX11_wipe 7 = .ok (.istore_n 1, 1) := by decide +kernel
theorem dX11_wipe_8 : decode cX11_wipe 8 = .ok (.aload_n 0, 1) := by decide +kernel
theorem dX11_wipe_9 : decode cX11_wipe 9 = .ok (.getfield 53, 3) := by decide +kernel
theorem dX11_wipe_12 : decode cX11_wipe 12 = .ok (.iconst 0, 1) := by decide +kernel
theorem dX11_wipe_13 : decode cX11_wipe 13 = .ok (.putfield 210, 3) := by decide +kernel
theorem dX11_wipe_16 : decode cX11_wipe 16 = .ok (.iload_n 1, 1) := by decide +kernel
theorem dX11_wipe_17 : decode cX11_wipe 17 = .ok (.ireturn, 1) := by decide +kernel
def k_X11_wipe_0 (F : FT) (Q : QT) : KT := o_aload 0 (o_getR 11 4 (o_getI 10 3 (o_istore 1 (o_aload 0 (o_getR 11 4 (o_ic (nI 0) (o_putI 10 3 (o_iload 1 (o_iret Q)))))))))
set_option maxRecDepth 20000 in
theorem r_X11_wipe {a0 : Nat} {n : Nat} {R : RR} {I : II} {J : JJ} {Q : QT} (hn : n + 0 ≤ 90) (h : ∀ F : FT, al_Wk F → al_Ok F (k_X11_wipe_0 F Q) 0 → F 0 [some (.ref a0), none] [] n R I J) : CT m_X11_wipe 0 [.ref a0] n R I J Q :=
  CT.of (by decide) hn (fun _ => rfl) (fun _ => Nat.le_of_ble_eq_true rfl) (fun F p l e s m args below meth c Rm t Q0 C hQ hr hm => h F (fun _ _ _ _ _ _ _ _ => S_wk C)
    (S_aload_n C dX11_wipe_0 rfl (S_getR (ci := 11) (j := 4) C inG11 rfl (Nat.le_of_ble_eq_true rfl) rfl (al_at 293 (by decide +kernel) rfl) dX11_wipe_1 (S_getI (ci := 10) (j := 3) C inG10 rfl (Nat.le_of_ble_eq_true rfl) rfl (al_at 247 (by decide +kernel) rfl) dX11_wipe_4 (S_istore_n C dX11_wipe_7 rfl (Nat.le_of_ble_eq_true rfl) (S_aload_n C dX11_wipe_8 rfl (S_getR (ci := 11) (j := 4) C inG11 rfl (Nat.le_of_ble_eq_true rfl) rfl (al_at 293 (by decide +kernel) rfl) dX11_wipe_9 (S_iconst C dX11_wipe_12 (by decide +kernel) (S_putI (ci := 10) (j := 3) C inG10 rfl (Nat.le_of_ble_eq_true rfl) tyX10 tyX10_ok nmX10 rfl rfl (tyX10_ok 3 (Nat.le_of_ble_eq_true rfl)) (al_at 247 (by decide +kernel) rfl) dX11_wipe_13 (S_iload_n C dX11_wipe_16 rfl (S_iret C hQ hr dX11_wipe_17)))))))))))
theorem dX11_write_0 : decode cX11_write 0 = .ok (.iload_n 1, 1) := by decide +kernel
theorem dX11_write_1 : decode cX11_write 1 = .ok (.invokestatic 220, 3) := by decide +kernel
theorem dX11_write_4 : decode cX11_write 4 = .ok (.ifCond .ne 11, 3) := by decide +kernel
theorem dX11_write_7 : decode cX11_write 7 = .ok (.aload_n 0, 1) := by decide +kernel
theorem dX11_write_8 : decode cX11_write 8 = .ok (.ldc 81, 2) := by decide +kernel
theorem dX11_write_10 : decode cX11_write 10 = .ok (.invokevirtual 82, 3) := by decide +kernel
theorem dX11_write_13 : decode cX11_write 13 = .ok (.i2l, 1) := by decide +kernel
theorem dX11_write_14 : decode cX11_write 14 = .ok (.lreturn, 1) := by decide +kernel
theorem dX11_write_15 : decode cX11_write 15 = .ok (.aload_n 0, 1) := by decide +kernel
theorem dX11_write_16 : decode cX11_write 16 = .ok (.getfield 59, 3) := by decide +kernel
theorem dX11_write_19 : decode cX11_write 19 = .ok (.iload_n 1, 1) := by decide +kernel
theorem dX11_write_20 : decode cX11_write 20 = .ok (.aaload, 1) := by decide +kernel
theorem dX11_write_21 : decode cX11_write 21 = .ok (.astore 5, 2) := by decide +kernel
theorem dX11_write_23 : decode cX11_write 23 = .ok (.aload 5, 2) := by decide +kernel
theorem dX11_write_25 : decode cX11_write 25 = .ok (.invokevirtual 230, 3) := by decide +kernel
theorem dX11_write_28 : decode cX11_write 28 = .ok (.ifCond .eq 11, 3) := by decide +kernel
theorem dX11_write_31 : decode cX11_write 31 = .ok (.aload_n 0, 1) := by decide +kernel
theorem dX11_write_32 : decode cX11_write 32 = .ok (.ldc 234, 2) := by decide +kernel
theorem dX11_write_34 : decode cX11_write 34 = .ok (.invokevirtual 82, 3) := by decide +kernel
theorem dX11_write_37 : decode cX11_write 37 = .ok (.i2l, 1) := by decide +kernel
theorem dX11_write_38 : decode cX11_write 38 = .ok (.lreturn, 1) := by decide +kernel
theorem dX11_write_39 : decode cX11_write 39 = .ok (.iload_n 2, 1) := by decide +kernel
theorem dX11_write_40 : decode cX11_write 40 = .ok (.ifCond .lt 12, 3) := by decide +kernel
theorem dX11_write_43 : decode cX11_write 43 = .ok (.iload_n 2, 1) := by decide +kernel
theorem dX11_write_44 : decode cX11_write 44 = .ok (.aload 5, 2) := by decide +kernel
theorem dX11_write_46 : decode cX11_write 46 = .ok (.getfield 227, 3) := by decide +kernel
theorem dX11_write_49 : decode cX11_write 49 = .ok (.if_icmp .lt 11, 3) := by decide +kernel
theorem dX11_write_52 : decode cX11_write 52 = .ok (.aload_n 0, 1) := by decide +kernel
theorem dX11_write_53 : decode cX11_write 53 = .ok (.ldc 81, 2) := by decide +kernel
theorem dX11_write_55 : decode cX11_write 55 = .ok (.invokevirtual 82, 3) := by decide +kernel
theorem dX11_write_58 : decode cX11_write 58 = .ok (.i2l, 1) := by decide +kernel
theorem dX11_write_59 : decode cX11_write 59 = .ok (.lreturn, 1) := by decide +kernel
theorem dX11_write_60 : decode cX11_write 60 = .ok (.aload 5, 2) := by decide +kernel
theorem dX11_write_62 : decode cX11_write 62 = .ok (.getfield 235, 3) := by decide +kernel
theorem dX11_write_65 : decode cX11_write 65 = .ok (.iload_n 2, 1) := by decide +kernel
theorem dX11_write_66 : decode cX11_write 66 = .ok (.laload, 1) := by decide +kernel
theorem dX11_write_67 : decode cX11_write 67 = .ok (.lstore 6, 2) := by decide +kernel
theorem dX11_write_69 : decode cX11_write 69 = .ok (.aload 5, 2) := by decide +kernel
theorem dX11_write_71 : decode cX11_write 71 = .ok (.getfield 235, 3) := by decide +kernel
theorem dX11_write_74 : decode cX11_write 74 = .ok (.iload_n 2, 1) := by decide +kernel
theorem dX11_write_75 : decode cX11_write 75 = .ok (.aload 5, 2) := by decide +kernel
theorem dX11_write_77 : decode cX11_write 77 = .ok (.lload_n 3, 1) := by decide +kernel
theorem dX11_write_78 : decode cX11_write 78 = .ok (.invokevirtual 239, 3) := by decide +kernel
theorem dX11_write_81 : decode cX11_write 81 = .ok (.lastore, 1) := by decide +kernel
theorem dX11_write_82 : decode cX11_write 82 = .ok (.lload 6, 2) := by decide +kernel
theorem dX11_write_84 : decode cX11_write 84 = .ok (.lreturn, 1) := by decide +kernel
def k_X11_write_0 (F : FT) (Q : QT) : KT := o_iload 1 (o_cS m_X11_isSheet 1 (o_ifne (F 15) (o_aload 0 (o_ic (-1000000001) (o_cV 11 m_X11_finding 2 (o_i2l (o_lret Q)))))))
def k_X11_write_15 (F : FT) (Q : QT) : KT := o_aload 0 (o_getR 11 5 (o_iload 1 (o_aald 5 (o_astore 5 (o_aload 5 (o_cV 7 m_X7_isMissing 1 (o_ifeq (F 39) (o_aload 0 (o_ic (-1000000006) (o_cV 11 m_X11_finding 2 (o_i2l (o_lret Q))))))))))))
def k_X11_write_39 (F : FT) (Q : QT) : KT := o_iload 2 (o_iflt (F 52) (o_iload 2 (o_aload 5 (o_getI 7 1 (o_iclt (F 60) (F 52))))))
def k_X11_write_52 (F : FT) (Q : QT) : KT := o_aload 0 (o_ic (-1000000001) (o_cV 11 m_X11_finding 2 (o_i2l (o_lret Q))))
def k_X11_write_60 (F : FT) (Q : QT) : KT := o_aload 5 (o_getR 7 2 (o_iload 2 (o_lald (o_lstore 6 (o_aload 5 (o_getR 7 2 (o_iload 2 (o_aload 5 (o_lload 3 (o_cV 7 m_X7_fitted 2 (o_last (o_lload 6 (o_lret Q)))))))))))))
set_option maxRecDepth 20000 in
theorem r_X11_write {a0 : Nat} {a1 : Int32} {a2 : Int32} {a3 : Int64} {n : Nat} {R : RR} {I : II} {J : JJ} {Q : QT} (hn : n + 0 ≤ 90) (h : ∀ F : FT, al_Wk F → al_Ok F (k_X11_write_0 F Q) 0 → al_Ok F (k_X11_write_15 F Q) 15 → al_Ok F (k_X11_write_39 F Q) 39 → al_Ok F (k_X11_write_52 F Q) 52 → al_Ok F (k_X11_write_60 F Q) 60 → F 0 [some (.ref a0), some (.int a1), some (.int a2), some (.long a3), none, none, none, none] [] n R I J) : CT m_X11_write 0 [.ref a0, .int a1, .int a2, .long a3] n R I J Q :=
  CT.of (by decide) hn (fun _ => rfl) (fun _ => Nat.le_of_ble_eq_true rfl) (fun F p l e s m args below meth c Rm t Q0 C hQ hr hm => h F (fun _ _ _ _ _ _ _ _ => S_wk C)
    (S_iload_n C dX11_write_0 rfl (S_cS C ok_X11_isSheet (al_at 835 (by decide +kernel) rfl) (Nat.le_of_ble_eq_true rfl) (Nat.le_of_ble_eq_true rfl) dX11_write_1 (S_ifne (tgt := 15) C dX11_write_4 (by decide) (S_aload_n C dX11_write_7 rfl (S_ldc C dX11_write_8 (al_at 328 (by decide +kernel) rfl) (S_cV (ci := 11) C ok_X11_finding rfl (al_at 329 (by decide +kernel) rfl) (Nat.le_of_ble_eq_true rfl) (Nat.le_of_ble_eq_true rfl) dX11_write_10 (S_i2l C dX11_write_13 (S_lret C hQ hr dX11_write_14))))))))
    (S_aload_n C dX11_write_15 rfl (S_getR (ci := 11) (j := 5) C inG11 rfl (Nat.le_of_ble_eq_true rfl) rfl (al_at 294 (by decide +kernel) rfl) dX11_write_16 (S_iload_n C dX11_write_19 rfl (S_aald (ak := 5) C (fun _ _ _ _ _ _ => rfl) (fun _ => rfl) dX11_write_20 (S_astore C dX11_write_21 (Nat.le_of_ble_eq_true rfl) (S_aload C dX11_write_23 (S_cV (ci := 7) C ok_X7_isMissing rfl (al_at 848 (by decide +kernel) rfl) (Nat.le_of_ble_eq_true rfl) (Nat.le_of_ble_eq_true rfl) dX11_write_25 (S_ifeq (tgt := 39) C dX11_write_28 (by decide) (S_aload_n C dX11_write_31 rfl (S_ldc C dX11_write_32 (al_at 852 (by decide +kernel) rfl) (S_cV (ci := 11) C ok_X11_finding rfl (al_at 329 (by decide +kernel) rfl) (Nat.le_of_ble_eq_true rfl) (Nat.le_of_ble_eq_true rfl) dX11_write_34 (S_i2l C dX11_write_37 (S_lret C hQ hr dX11_write_38)))))))))))))
    (S_iload_n C dX11_write_39 rfl (S_iflt (tgt := 52) C dX11_write_40 (by decide) (S_iload_n C dX11_write_43 rfl (S_aload C dX11_write_44 (S_getI (ci := 7) (j := 1) C inG7 rfl (Nat.le_of_ble_eq_true rfl) rfl (al_at 279 (by decide +kernel) rfl) dX11_write_46 (S_icmplt (tgt := 60) C dX11_write_49 (by decide) (fun _ _ _ _ _ _ h9 => h9)))))))
    (S_aload_n C dX11_write_52 rfl (S_ldc C dX11_write_53 (al_at 328 (by decide +kernel) rfl) (S_cV (ci := 11) C ok_X11_finding rfl (al_at 329 (by decide +kernel) rfl) (Nat.le_of_ble_eq_true rfl) (Nat.le_of_ble_eq_true rfl) dX11_write_55 (S_i2l C dX11_write_58 (S_lret C hQ hr dX11_write_59)))))
    (S_aload C dX11_write_60 (S_getR (ci := 7) (j := 2) C inG7 rfl (Nat.le_of_ble_eq_true rfl) rfl (al_at 281 (by decide +kernel) rfl) dX11_write_62 (S_iload_n C dX11_write_65 rfl (S_lald C dX11_write_66 (S_lstore C dX11_write_67 (Nat.le_of_ble_eq_true rfl) (S_aload C dX11_write_69 (S_getR (ci := 7) (j := 2) C inG7 rfl (Nat.le_of_ble_eq_true rfl) rfl (al_at 281 (by decide +kernel) rfl) dX11_write_71 (S_iload_n C dX11_write_74 rfl (S_aload C dX11_write_75 (S_lload_n C dX11_write_77 rfl (S_cV (ci := 7) C ok_X7_fitted rfl (al_at 853 (by decide +kernel) rfl) (Nat.le_of_ble_eq_true rfl) (Nat.le_of_ble_eq_true rfl) dX11_write_78 (S_last C dX11_write_81 (S_lload C dX11_write_82 (S_lret C hQ hr dX11_write_84)))))))))))))))
theorem dX11_years_0 : decode cX11_years 0 = .ok (.iload_n 1, 1) := by decide +kernel
theorem dX11_years_1 : decode cX11_years 1 = .ok (.iconst 1, 1) := by decide +kernel
theorem dX11_years_2 : decode cX11_years 2 = .ok (.if_icmp .lt 9, 3) := by decide +kernel
theorem dX11_years_5 : decode cX11_years 5 = .ok (.iload_n 1, 1) := by decide +kernel
theorem dX11_years_6 : decode cX11_years 6 = .ok (.bipush 20, 2) := by decide +kernel
theorem dX11_years_8 : decode cX11_years 8 = .ok (.if_icmp .le 10, 3) := by decide +kernel
theorem dX11_years_11 : decode cX11_years 11 = .ok (.aload_n 0, 1) := by decide +kernel
theorem dX11_years_12 : decode cX11_years 12 = .ok (.ldc 81, 2) := by decide +kernel
theorem dX11_years_14 : decode cX11_years 14 = .ok (.invokevirtual 82, 3) := by decide +kernel
theorem dX11_years_17 : decode cX11_years 17 = .ok (.ireturn, 1) := by decide +kernel
theorem dX11_years_18 : decode cX11_years 18 = .ok (.iconst 0, 1) := by decide +kernel
theorem dX11_years_19 : decode cX11_years 19 = .ok (.istore_n 2, 1) := by decide +kernel
theorem dX11_years_20 : decode cX11_years 20 = .ok (.iconst 0, 1) := by decide +kernel
theorem dX11_years_21 : decode cX11_years 21 = .ok (.istore_n 3, 1) := by decide +kernel
theorem dX11_years_22 : decode cX11_years 22 = .ok (.iload_n 3, 1) := by decide +kernel
theorem dX11_years_23 : decode cX11_years 23 = .ok (.iload_n 1, 1) := by decide +kernel
theorem dX11_years_24 : decode cX11_years 24 = .ok (.if_icmp .ge 39, 3) := by decide +kernel
theorem dX11_years_27 : decode cX11_years 27 = .ok (.iconst 0, 1) := by decide +kernel
theorem dX11_years_28 : decode cX11_years 28 = .ok (.istore 4, 2) := by decide +kernel
theorem dX11_years_30 : decode cX11_years 30 = .ok (.iload 4, 2) := by decide +kernel
theorem dX11_years_32 : decode cX11_years 32 = .ok (.aload_n 0, 1) := by decide +kernel
theorem dX11_years_33 : decode cX11_years 33 = .ok (.getfield 30, 3) := by decide +kernel
theorem dX11_years_36 : decode cX11_years 36 = .ok (.getfield 102, 3) := by decide +kernel
theorem dX11_years_39 : decode cX11_years 39 = .ok (.if_icmp .ge 18, 3) := by decide +kernel
theorem dX11_years_42 : decode cX11_years 42 = .ok (.iload_n 2, 1) := by decide +kernel
theorem dX11_years_43 : decode cX11_years 43 = .ok (.aload_n 0, 1) := by decide +kernel
theorem dX11_years_44 : decode cX11_years 44 = .ok (.iload 4, 2) := by decide +kernel
theorem dX11_years_46 : decode cX11_years 46 = .ok (.invokevirtual 207, 3) := by decide +kernel
theorem dX11_years_49 : decode cX11_years 49 = .ok (.iadd, 1) := by decide +kernel
theorem dX11_years_50 : decode cX11_years 50 = .ok (.istore_n 2, 1) := by decide +kernel
theorem dX11_years_51 : decode cX11_years 51 = .ok (.iinc 4 1, 3) := by decide +kernel
theorem dX11_years_54 : decode cX11_years 54 = .ok (.goto (-24), 3) := by decide +kernel
theorem dX11_years_57 : decode cX11_years 57 = .ok (.iinc 3 1, 3) := by decide +kernel
theorem dX11_years_60 : decode cX11_years 60 = .ok (.goto (-38), 3) := by decide +kernel
theorem dX11_years_63 : decode cX11_years 63 = .ok (.iload_n 2, 1) := by decide +kernel
theorem dX11_years_64 : decode cX11_years 64 = .ok (.ireturn, 1) := by decide +kernel
def k_X11_years_0 (F : FT) (Q : QT) : KT := o_iload 1 (o_ic (nI 1) (o_iclt (F 11) (o_iload 1 (o_ic (nI 20) (o_icle (F 18) (F 11))))))
def k_X11_years_11 (F : FT) (Q : QT) : KT := o_aload 0 (o_ic (-1000000001) (o_cV 11 m_X11_finding 2 (o_iret Q)))
def k_X11_years_18 (F : FT) (Q : QT) : KT := o_ic (nI 0) (o_istore 2 (o_ic (nI 0) (o_istore 3 (F 22))))
def k_X11_years_22 (F : FT) (Q : QT) : KT := o_iload 3 (o_iload 1 (o_icge (F 63) (o_ic (nI 0) (o_istore 4 (F 30)))))
def k_X11_years_30 (F : FT) (Q : QT) : KT := o_iload 4 (o_aload 0 (o_getR 11 0 (o_getI 9 3 (o_icge (F 57) (o_iload 2 (o_aload 0 (o_iload 4 (o_cV 11 m_X11_liveYear 2 (o_iadd (o_istore 2 (o_iinc 4 (nI 1) (F 30))))))))))))
def k_X11_years_57 (F : FT) (Q : QT) : KT := o_iinc 3 (nI 1) (F 22)
def k_X11_years_63 (F : FT) (Q : QT) : KT := o_iload 2 (o_iret Q)
set_option maxRecDepth 20000 in
theorem r_X11_years {a0 : Nat} {a1 : Int32} {n : Nat} {R : RR} {I : II} {J : JJ} {Q : QT} (hn : n + 0 ≤ 90) (h : ∀ F : FT, al_Wk F → al_Ok F (k_X11_years_0 F Q) 0 → al_Ok F (k_X11_years_11 F Q) 11 → al_Ok F (k_X11_years_18 F Q) 18 → al_Ok F (k_X11_years_22 F Q) 22 → al_Ok F (k_X11_years_30 F Q) 30 → al_Ok F (k_X11_years_57 F Q) 57 → al_Ok F (k_X11_years_63 F Q) 63 → F 0 [some (.ref a0), some (.int a1), none, none, none] [] n R I J) : CT m_X11_years 0 [.ref a0, .int a1] n R I J Q :=
  CT.of (by decide) hn (fun _ => rfl) (fun _ => Nat.le_of_ble_eq_true rfl) (fun F p l e s m args below meth c Rm t Q0 C hQ hr hm => h F (fun _ _ _ _ _ _ _ _ => S_wk C)
    (S_iload_n C dX11_years_0 rfl (S_iconst C dX11_years_1 (by decide +kernel) (S_icmplt (tgt := 11) C dX11_years_2 (by decide) (S_iload_n C dX11_years_5 rfl (S_bipush C dX11_years_6 (by decide +kernel) (S_icmple (tgt := 18) C dX11_years_8 (by decide) (fun _ _ _ _ _ _ h9 => h9)))))))
    (S_aload_n C dX11_years_11 rfl (S_ldc C dX11_years_12 (al_at 328 (by decide +kernel) rfl) (S_cV (ci := 11) C ok_X11_finding rfl (al_at 329 (by decide +kernel) rfl) (Nat.le_of_ble_eq_true rfl) (Nat.le_of_ble_eq_true rfl) dX11_years_14 (S_iret C hQ hr dX11_years_17))))
    (S_iconst C dX11_years_18 (by decide +kernel) (S_istore_n C dX11_years_19 rfl (Nat.le_of_ble_eq_true rfl) (S_iconst C dX11_years_20 (by decide +kernel) (S_istore_n C dX11_years_21 rfl (Nat.le_of_ble_eq_true rfl) (fun _ _ _ _ _ _ h9 => h9)))))
    (S_iload_n C dX11_years_22 rfl (S_iload_n C dX11_years_23 rfl (S_icmpge (tgt := 63) C dX11_years_24 (by decide) (S_iconst C dX11_years_27 (by decide +kernel) (S_istore C dX11_years_28 (Nat.le_of_ble_eq_true rfl) (fun _ _ _ _ _ _ h9 => h9))))))
    (S_iload C dX11_years_30 (S_aload_n C dX11_years_32 rfl (S_getR (ci := 11) (j := 0) C inG11 rfl (Nat.le_of_ble_eq_true rfl) rfl (al_at 289 (by decide +kernel) rfl) dX11_years_33 (S_getI (ci := 9) (j := 3) C inG9 rfl (Nat.le_of_ble_eq_true rfl) rfl (al_at 181 (by decide +kernel) rfl) dX11_years_36 (S_icmpge (tgt := 57) C dX11_years_39 (by decide) (S_iload_n C dX11_years_42 rfl (S_aload_n C dX11_years_43 rfl (S_iload C dX11_years_44 (S_cV (ci := 11) C ok_X11_liveYear rfl (al_at 653 (by decide +kernel) rfl) (Nat.le_of_ble_eq_true rfl) (Nat.le_of_ble_eq_true rfl) dX11_years_46 (S_iadd C dX11_years_49 (S_istore_n C dX11_years_50 rfl (Nat.le_of_ble_eq_true rfl) (S_iinc C dX11_years_51 (by decide +kernel) (Nat.le_of_ble_eq_true rfl) (S_goto (tgt := 30) C dX11_years_54 (by decide))))))))))))))
    (S_iinc C dX11_years_57 (by decide +kernel) (Nat.le_of_ble_eq_true rfl) (S_goto (tgt := 22) C dX11_years_60 (by decide)))
    (S_iload_n C dX11_years_63 rfl (S_iret C hQ hr dX11_years_64)))
theorem dX11_yields_0 : decode cX11_yields 0 = .ok (.iconst 0, 1) := by decide +kernel
theorem dX11_yields_1 : decode cX11_yields 1 = .ok (.istore_n 1, 1) := by decide +kernel
theorem dX11_yields_2 : decode cX11_yields 2 = .ok (.iconst 0, 1) := by decide +kernel
theorem dX11_yields_3 : decode cX11_yields 3 = .ok (.istore_n 2, 1) := by decide +kernel
theorem dX11_yields_4 : decode cX11_yields 4 = .ok (.iload_n 2, 1) := by decide +kernel
theorem dX11_yields_5 : decode cX11_yields 5 = .ok (.aload_n 0, 1) := by decide +kernel
theorem dX11_yields_6 : decode cX11_yields 6 = .ok (.getfield 30, 3) := by decide +kernel
theorem dX11_yields_9 : decode cX11_yields 9 = .ok (.getfield 102, 3) := by decide +kernel
theorem dX11_yields_12 : decode cX11_yields 12 = .ok (.if_icmp .ge 17, 3) := by decide +kernel
theorem dX11_yields_15 : decode cX11_yields 15 = .ok (.iload_n 1, 1) := by decide +kernel
theorem dX11_yields_16 : decode cX11_yields 16 = .ok (.aload_n 0, 1) := by decide +kernel
theorem dX11_yields_17 : decode cX11_yields 17 = .ok (.iload_n 2, 1) := by decide +kernel
theorem dX11_yields_18 : decode cX11_yields 18 = .ok (.invokevirtual 138, 3) := by decide +kernel
theorem dX11_yields_21 : decode cX11_yields 21 = .ok (.iadd, 1) := by decide +kernel
theorem dX11_yields_22 : decode cX11_yields 22 = .ok (.istore_n 1, 1) := by decide +kernel
theorem dX11_yields_23 : decode cX11_yields 23 = .ok (.iinc 2 1, 3) := by decide +kernel
theorem dX11_yields_26 : decode cX11_yields 26 = .ok (.goto (-22), 3) := by decide +kernel
theorem dX11_yields_29 : decode cX11_yields 29 = .ok (.iload_n 1, 1) := by decide +kernel
theorem dX11_yields_30 : decode cX11_yields 30 = .ok (.ireturn, 1) := by decide +kernel
def k_X11_yields_0 (F : FT) (Q : QT) : KT := o_ic (nI 0) (o_istore 1 (o_ic (nI 0) (o_istore 2 (F 4))))
def k_X11_yields_4 (F : FT) (Q : QT) : KT := o_iload 2 (o_aload 0 (o_getR 11 0 (o_getI 9 3 (o_icge (F 29) (o_iload 1 (o_aload 0 (o_iload 2 (o_cV 11 m_X11_taxOf 2 (o_iadd (o_istore 1 (o_iinc 2 (nI 1) (F 4))))))))))))
def k_X11_yields_29 (F : FT) (Q : QT) : KT := o_iload 1 (o_iret Q)
set_option maxRecDepth 20000 in
theorem r_X11_yields {a0 : Nat} {n : Nat} {R : RR} {I : II} {J : JJ} {Q : QT} (hn : n + 0 ≤ 90) (h : ∀ F : FT, al_Wk F → al_Ok F (k_X11_yields_0 F Q) 0 → al_Ok F (k_X11_yields_4 F Q) 4 → al_Ok F (k_X11_yields_29 F Q) 29 → F 0 [some (.ref a0), none, none] [] n R I J) : CT m_X11_yields 0 [.ref a0] n R I J Q :=
  CT.of (by decide) hn (fun _ => rfl) (fun _ => Nat.le_of_ble_eq_true rfl) (fun F p l e s m args below meth c Rm t Q0 C hQ hr hm => h F (fun _ _ _ _ _ _ _ _ => S_wk C)
    (S_iconst C dX11_yields_0 (by decide +kernel) (S_istore_n C dX11_yields_1 rfl (Nat.le_of_ble_eq_true rfl) (S_iconst C dX11_yields_2 (by decide +kernel) (S_istore_n C dX11_yields_3 rfl (Nat.le_of_ble_eq_true rfl) (fun _ _ _ _ _ _ h9 => h9)))))
    (S_iload_n C dX11_yields_4 rfl (S_aload_n C dX11_yields_5 rfl (S_getR (ci := 11) (j := 0) C inG11 rfl (Nat.le_of_ble_eq_true rfl) rfl (al_at 289 (by decide +kernel) rfl) dX11_yields_6 (S_getI (ci := 9) (j := 3) C inG9 rfl (Nat.le_of_ble_eq_true rfl) rfl (al_at 181 (by decide +kernel) rfl) dX11_yields_9 (S_icmpge (tgt := 29) C dX11_yields_12 (by decide) (S_iload_n C dX11_yields_15 rfl (S_aload_n C dX11_yields_16 rfl (S_iload_n C dX11_yields_17 rfl (S_cV (ci := 11) C ok_X11_taxOf rfl (al_at 389 (by decide +kernel) rfl) (Nat.le_of_ble_eq_true rfl) (Nat.le_of_ble_eq_true rfl) dX11_yields_18 (S_iadd C dX11_yields_21 (S_istore_n C dX11_yields_22 rfl (Nat.le_of_ble_eq_true rfl) (S_iinc C dX11_yields_23 (by decide +kernel) (Nat.le_of_ble_eq_true rfl) (S_goto (tgt := 4) C dX11_yields_26 (by decide))))))))))))))
    (S_iload_n C dX11_yields_29 rfl (S_iret C hQ hr dX11_yields_30)))
