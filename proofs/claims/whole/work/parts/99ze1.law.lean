/-! ===== the law's cases 11.. ===== -/
theorem dL_law_611 : decode cL_law 611 = .ok (.aload_n 1, 1) := by decide +kernel
theorem dL_law_612 : decode cL_law 612 = .ok (.aload_n 0, 1) := by decide +kernel
theorem dL_law_613 : decode cL_law 613 = .ok (.iload_n 3, 1) := by decide +kernel
theorem dL_law_614 : decode cL_law 614 = .ok (.iconst 1, 1) := by decide +kernel
theorem dL_law_615 : decode cL_law 615 = .ok (.iadd, 1) := by decide +kernel
theorem dL_law_616 : decode cL_law 616 = .ok (.iaload, 1) := by decide +kernel
theorem dL_law_617 : decode cL_law 617 = .ok (.aload_n 0, 1) := by decide +kernel
theorem dL_law_618 : decode cL_law 618 = .ok (.iload_n 3, 1) := by decide +kernel
theorem dL_law_619 : decode cL_law 619 = .ok (.iconst 2, 1) := by decide +kernel
theorem dL_law_620 : decode cL_law 620 = .ok (.iadd, 1) := by decide +kernel
theorem dL_law_621 : decode cL_law 621 = .ok (.iaload, 1) := by decide +kernel
theorem dL_law_622 : decode cL_law 622 = .ok (.invokevirtual 61, 3) := by decide +kernel
theorem dL_law_625 : decode cL_law 625 = .ok (.aload_n 2, 1) := by decide +kernel
theorem dL_law_626 : decode cL_law 626 = .ok (.aload_n 0, 1) := by decide +kernel
theorem dL_law_627 : decode cL_law 627 = .ok (.iload_n 3, 1) := by decide +kernel
theorem dL_law_628 : decode cL_law 628 = .ok (.iconst 1, 1) := by decide +kernel
theorem dL_law_629 : decode cL_law 629 = .ok (.iadd, 1) := by decide +kernel
theorem dL_law_630 : decode cL_law 630 = .ok (.iaload, 1) := by decide +kernel
theorem dL_law_631 : decode cL_law 631 = .ok (.aload_n 0, 1) := by decide +kernel
theorem dL_law_632 : decode cL_law 632 = .ok (.iload_n 3, 1) := by decide +kernel
theorem dL_law_633 : decode cL_law 633 = .ok (.iconst 2, 1) := by decide +kernel
theorem dL_law_634 : decode cL_law 634 = .ok (.iadd, 1) := by decide +kernel
theorem dL_law_635 : decode cL_law 635 = .ok (.iaload, 1) := by decide +kernel
theorem dL_law_636 : decode cL_law 636 = .ok (.invokevirtual 64, 3) := by decide +kernel
theorem dL_law_639 : decode cL_law 639 = .ok (.if_icmp .eq 1294, 3) := by decide +kernel
theorem lawc_11 {X : xCX} {b L : Nat} {xs : Nat → Int32} {i : Int32} {M : xMem} (C : xCk X cL_law RL 16) (hS : xSc X b L xs) (h5 : ∀ j, j < 6 → vp_in (i + nI j) L) (hT : TOP M) (kk : ∀ M', TOP M' → WW X 1933 [some (.ref b), some (vr X.1 0), some (vr X.1 146), some (.int i)] [] M') : WW X 611 [some (.ref b), some (vr X.1 0), some (vr X.1 146), some (.int i)] [] M := by
  obtain ⟨v, M1, M2, f1, f2, T2⟩ := (show STEP (fX10_wait 0 (xs (i + nI 1).toNatClampNeg) (xs (i + nI 2).toNatClampNeg)) (fX11_wait 146 (xs (i + nI 1).toNatClampNeg) (xs (i + nI 2).toNatClampNeg)) from s_wait) M hT
  refine r_aload_n (pc := 611) C dL_law_611 rfl rfl ?_
  refine r_xld_n (pc := 612) C dL_law_612 rfl rfl rfl ?_
  refine r_iload_n (pc := 613) C dL_law_613 rfl rfl ?_
  refine r_iconst (pc := 614) (v := nI 1) C dL_law_614 (by decide) ?_
  refine r_iadd (pc := 615) C dL_law_615 ?_
  refine r_scld (pc := 616) C hS (h5 1 (by decide)) dL_law_616 ?_
  refine r_xld_n (pc := 617) C dL_law_617 rfl rfl rfl ?_
  refine r_iload_n (pc := 618) C dL_law_618 rfl rfl ?_
  refine r_iconst (pc := 619) (v := nI 2) C dL_law_619 (by decide) ?_
  refine r_iadd (pc := 620) C dL_law_620 ?_
  refine r_scld (pc := 621) C hS (h5 2 (by decide)) dL_law_621 ?_
  refine r_vI2 (pc := 622) (o := fX10_wait 0 (xs (i + nI 1).toNatClampNeg) (xs (i + nI 2).toNatClampNeg) M) (F := fun r M' => some (r, M')) (z := (v, M1)) C (fun r M' e => zX10_wait X.1 0 rfl (xs (i + nI 1).toNatClampNeg) (xs (i + nI 2).toNatClampNeg) M r M' e) rfl (by decide) rfl mX10_wait lL_61 (by decide) (Nat.le_of_ble_eq_true rfl) dL_law_622 (by rw [f1]; rfl) (fun r M' e => ?_)
  cases e
  refine r_aload_n (pc := 625) C dL_law_625 rfl rfl ?_
  refine r_xld_n (pc := 626) C dL_law_626 rfl rfl rfl ?_
  refine r_iload_n (pc := 627) C dL_law_627 rfl rfl ?_
  refine r_iconst (pc := 628) (v := nI 1) C dL_law_628 (by decide) ?_
  refine r_iadd (pc := 629) C dL_law_629 ?_
  refine r_scld (pc := 630) C hS (h5 1 (by decide)) dL_law_630 ?_
  refine r_xld_n (pc := 631) C dL_law_631 rfl rfl rfl ?_
  refine r_iload_n (pc := 632) C dL_law_632 rfl rfl ?_
  refine r_iconst (pc := 633) (v := nI 2) C dL_law_633 (by decide) ?_
  refine r_iadd (pc := 634) C dL_law_634 ?_
  refine r_scld (pc := 635) C hS (h5 2 (by decide)) dL_law_635 ?_
  refine r_vI2 (pc := 636) (o := fX11_wait 146 (xs (i + nI 1).toNatClampNeg) (xs (i + nI 2).toNatClampNeg) M1) (F := fun r M' => some (r, M')) (z := (v, M2)) C (fun r M' e => zX11_wait X.1 146 rfl (xs (i + nI 1).toNatClampNeg) (xs (i + nI 2).toNatClampNeg) M1 r M' e) rfl (by decide) rfl mX11_wait lL_64 (by decide) (Nat.le_of_ble_eq_true rfl) dL_law_636 (by rw [f2]; rfl) (fun r M' e => ?_)
  cases e
  exact r_icmp_eq (pc := 639) (tgt := 1933) (A := some ()) (B := none) (r := ()) C dL_law_639 (by decide) (if_pos rfl) (fun _ _ => kk M2 T2) (fun _ h => absurd h (by simp))
theorem dL_law_644 : decode cL_law 644 = .ok (.aload_n 1, 1) := by decide +kernel
theorem dL_law_645 : decode cL_law 645 = .ok (.aload_n 0, 1) := by decide +kernel
theorem dL_law_646 : decode cL_law 646 = .ok (.iload_n 3, 1) := by decide +kernel
theorem dL_law_647 : decode cL_law 647 = .ok (.iconst 1, 1) := by decide +kernel
theorem dL_law_648 : decode cL_law 648 = .ok (.iadd, 1) := by decide +kernel
theorem dL_law_649 : decode cL_law 649 = .ok (.iaload, 1) := by decide +kernel
theorem dL_law_650 : decode cL_law 650 = .ok (.invokevirtual 65, 3) := by decide +kernel
theorem dL_law_653 : decode cL_law 653 = .ok (.aload_n 2, 1) := by decide +kernel
theorem dL_law_654 : decode cL_law 654 = .ok (.aload_n 0, 1) := by decide +kernel
theorem dL_law_655 : decode cL_law 655 = .ok (.iload_n 3, 1) := by decide +kernel
theorem dL_law_656 : decode cL_law 656 = .ok (.iconst 1, 1) := by decide +kernel
theorem dL_law_657 : decode cL_law 657 = .ok (.iadd, 1) := by decide +kernel
theorem dL_law_658 : decode cL_law 658 = .ok (.iaload, 1) := by decide +kernel
theorem dL_law_659 : decode cL_law 659 = .ok (.invokevirtual 68, 3) := by decide +kernel
theorem dL_law_662 : decode cL_law 662 = .ok (.if_icmp .eq 1271, 3) := by decide +kernel
theorem lawc_12 {X : xCX} {b L : Nat} {xs : Nat → Int32} {i : Int32} {M : xMem} (C : xCk X cL_law RL 16) (hS : xSc X b L xs) (h5 : ∀ j, j < 6 → vp_in (i + nI j) L) (hT : TOP M) (kk : ∀ M', TOP M' → WW X 1933 [some (.ref b), some (vr X.1 0), some (vr X.1 146), some (.int i)] [] M') : WW X 644 [some (.ref b), some (vr X.1 0), some (vr X.1 146), some (.int i)] [] M := by
  obtain ⟨v, M1, M2, f1, f2, T2⟩ := (show STEP (fX10_score 0 (xs (i + nI 1).toNatClampNeg)) (fX11_score 146 (xs (i + nI 1).toNatClampNeg)) from s_score) M hT
  refine r_aload_n (pc := 644) C dL_law_644 rfl rfl ?_
  refine r_xld_n (pc := 645) C dL_law_645 rfl rfl rfl ?_
  refine r_iload_n (pc := 646) C dL_law_646 rfl rfl ?_
  refine r_iconst (pc := 647) (v := nI 1) C dL_law_647 (by decide) ?_
  refine r_iadd (pc := 648) C dL_law_648 ?_
  refine r_scld (pc := 649) C hS (h5 1 (by decide)) dL_law_649 ?_
  refine r_vI1 (pc := 650) (o := fX10_score 0 (xs (i + nI 1).toNatClampNeg) M) (F := fun r M' => some (r, M')) (z := (v, M1)) C (fun r M' e => zX10_score X.1 0 rfl (xs (i + nI 1).toNatClampNeg) M r M' e) rfl (by decide) rfl mX10_score lL_65 (by decide) (Nat.le_of_ble_eq_true rfl) dL_law_650 (by rw [f1]; rfl) (fun r M' e => ?_)
  cases e
  refine r_aload_n (pc := 653) C dL_law_653 rfl rfl ?_
  refine r_xld_n (pc := 654) C dL_law_654 rfl rfl rfl ?_
  refine r_iload_n (pc := 655) C dL_law_655 rfl rfl ?_
  refine r_iconst (pc := 656) (v := nI 1) C dL_law_656 (by decide) ?_
  refine r_iadd (pc := 657) C dL_law_657 ?_
  refine r_scld (pc := 658) C hS (h5 1 (by decide)) dL_law_658 ?_
  refine r_vI1 (pc := 659) (o := fX11_score 146 (xs (i + nI 1).toNatClampNeg) M1) (F := fun r M' => some (r, M')) (z := (v, M2)) C (fun r M' e => zX11_score X.1 146 rfl (xs (i + nI 1).toNatClampNeg) M1 r M' e) rfl (by decide) rfl mX11_score lL_68 (by decide) (Nat.le_of_ble_eq_true rfl) dL_law_659 (by rw [f2]; rfl) (fun r M' e => ?_)
  cases e
  exact r_icmp_eq (pc := 662) (tgt := 1933) (A := some ()) (B := none) (r := ()) C dL_law_662 (by decide) (if_pos rfl) (fun _ _ => kk M2 T2) (fun _ h => absurd h (by simp))
theorem dL_law_667 : decode cL_law 667 = .ok (.aload_n 1, 1) := by decide +kernel
theorem dL_law_668 : decode cL_law 668 = .ok (.invokevirtual 69, 3) := by decide +kernel
theorem dL_law_671 : decode cL_law 671 = .ok (.aload_n 2, 1) := by decide +kernel
theorem dL_law_672 : decode cL_law 672 = .ok (.invokevirtual 72, 3) := by decide +kernel
theorem dL_law_675 : decode cL_law 675 = .ok (.if_icmp .eq 1258, 3) := by decide +kernel
theorem lawc_13 {X : xCX} {b L : Nat} {xs : Nat → Int32} {i : Int32} {M : xMem} (C : xCk X cL_law RL 16) (hS : xSc X b L xs) (h5 : ∀ j, j < 6 → vp_in (i + nI j) L) (hT : TOP M) (kk : ∀ M', TOP M' → WW X 1933 [some (.ref b), some (vr X.1 0), some (vr X.1 146), some (.int i)] [] M') : WW X 667 [some (.ref b), some (vr X.1 0), some (vr X.1 146), some (.int i)] [] M := by
  obtain ⟨v, M1, M2, f1, f2, T2⟩ := (show STEP (fX10_turn 0 ) (fX11_turn 146 ) from s_turn) M hT
  refine r_aload_n (pc := 667) C dL_law_667 rfl rfl ?_
  refine r_vI0 (pc := 668) (o := fX10_turn 0  M) (F := fun r M' => some (r, M')) (z := (v, M1)) C (fun r M' e => zX10_turn X.1 0 rfl  M r M' e) rfl (by decide) rfl mX10_turn lL_69 (by decide) (Nat.le_of_ble_eq_true rfl) dL_law_668 (by rw [f1]; rfl) (fun r M' e => ?_)
  cases e
  refine r_aload_n (pc := 671) C dL_law_671 rfl rfl ?_
  refine r_vI0 (pc := 672) (o := fX11_turn 146  M1) (F := fun r M' => some (r, M')) (z := (v, M2)) C (fun r M' e => zX11_turn X.1 146 rfl  M1 r M' e) rfl (by decide) rfl mX11_turn lL_72 (by decide) (Nat.le_of_ble_eq_true rfl) dL_law_672 (by rw [f2]; rfl) (fun r M' e => ?_)
  cases e
  exact r_icmp_eq (pc := 675) (tgt := 1933) (A := some ()) (B := none) (r := ()) C dL_law_675 (by decide) (if_pos rfl) (fun _ _ => kk M2 T2) (fun _ h => absurd h (by simp))
theorem dL_law_680 : decode cL_law 680 = .ok (.aload_n 1, 1) := by decide +kernel
theorem dL_law_681 : decode cL_law 681 = .ok (.aload_n 0, 1) := by decide +kernel
theorem dL_law_682 : decode cL_law 682 = .ok (.iload_n 3, 1) := by decide +kernel
theorem dL_law_683 : decode cL_law 683 = .ok (.iconst 1, 1) := by decide +kernel
theorem dL_law_684 : decode cL_law 684 = .ok (.iadd, 1) := by decide +kernel
theorem dL_law_685 : decode cL_law 685 = .ok (.iaload, 1) := by decide +kernel
theorem dL_law_686 : decode cL_law 686 = .ok (.invokevirtual 73, 3) := by decide +kernel
theorem dL_law_689 : decode cL_law 689 = .ok (.aload_n 2, 1) := by decide +kernel
theorem dL_law_690 : decode cL_law 690 = .ok (.aload_n 0, 1) := by decide +kernel
theorem dL_law_691 : decode cL_law 691 = .ok (.iload_n 3, 1) := by decide +kernel
theorem dL_law_692 : decode cL_law 692 = .ok (.iconst 1, 1) := by decide +kernel
theorem dL_law_693 : decode cL_law 693 = .ok (.iadd, 1) := by decide +kernel
theorem dL_law_694 : decode cL_law 694 = .ok (.iaload, 1) := by decide +kernel
theorem dL_law_695 : decode cL_law 695 = .ok (.invokevirtual 76, 3) := by decide +kernel
theorem dL_law_698 : decode cL_law 698 = .ok (.if_icmp .eq 1235, 3) := by decide +kernel
theorem lawc_14 {X : xCX} {b L : Nat} {xs : Nat → Int32} {i : Int32} {M : xMem} (C : xCk X cL_law RL 16) (hS : xSc X b L xs) (h5 : ∀ j, j < 6 → vp_in (i + nI j) L) (hT : TOP M) (kk : ∀ M', TOP M' → WW X 1933 [some (.ref b), some (vr X.1 0), some (vr X.1 146), some (.int i)] [] M') : WW X 680 [some (.ref b), some (vr X.1 0), some (vr X.1 146), some (.int i)] [] M := by
  obtain ⟨v, M1, M2, f1, f2, T2⟩ := (show STEP (fX10_empties 0 (xs (i + nI 1).toNatClampNeg)) (fX11_empties 146 (xs (i + nI 1).toNatClampNeg)) from s_empties) M hT
  refine r_aload_n (pc := 680) C dL_law_680 rfl rfl ?_
  refine r_xld_n (pc := 681) C dL_law_681 rfl rfl rfl ?_
  refine r_iload_n (pc := 682) C dL_law_682 rfl rfl ?_
  refine r_iconst (pc := 683) (v := nI 1) C dL_law_683 (by decide) ?_
  refine r_iadd (pc := 684) C dL_law_684 ?_
  refine r_scld (pc := 685) C hS (h5 1 (by decide)) dL_law_685 ?_
  refine r_vI1 (pc := 686) (o := fX10_empties 0 (xs (i + nI 1).toNatClampNeg) M) (F := fun r M' => some (r, M')) (z := (v, M1)) C (fun r M' e => zX10_empties X.1 0 rfl (xs (i + nI 1).toNatClampNeg) M r M' e) rfl (by decide) rfl mX10_empties lL_73 (by decide) (Nat.le_of_ble_eq_true rfl) dL_law_686 (by rw [f1]; rfl) (fun r M' e => ?_)
  cases e
  refine r_aload_n (pc := 689) C dL_law_689 rfl rfl ?_
  refine r_xld_n (pc := 690) C dL_law_690 rfl rfl rfl ?_
  refine r_iload_n (pc := 691) C dL_law_691 rfl rfl ?_
  refine r_iconst (pc := 692) (v := nI 1) C dL_law_692 (by decide) ?_
  refine r_iadd (pc := 693) C dL_law_693 ?_
  refine r_scld (pc := 694) C hS (h5 1 (by decide)) dL_law_694 ?_
  refine r_vI1 (pc := 695) (o := fX11_empties 146 (xs (i + nI 1).toNatClampNeg) M1) (F := fun r M' => some (r, M')) (z := (v, M2)) C (fun r M' e => zX11_empties X.1 146 rfl (xs (i + nI 1).toNatClampNeg) M1 r M' e) rfl (by decide) rfl mX11_empties lL_76 (by decide) (Nat.le_of_ble_eq_true rfl) dL_law_695 (by rw [f2]; rfl) (fun r M' e => ?_)
  cases e
  exact r_icmp_eq (pc := 698) (tgt := 1933) (A := some ()) (B := none) (r := ()) C dL_law_698 (by decide) (if_pos rfl) (fun _ _ => kk M2 T2) (fun _ h => absurd h (by simp))
theorem dL_law_703 : decode cL_law 703 = .ok (.aload_n 1, 1) := by decide +kernel
theorem dL_law_704 : decode cL_law 704 = .ok (.invokevirtual 77, 3) := by decide +kernel
theorem dL_law_707 : decode cL_law 707 = .ok (.aload_n 2, 1) := by decide +kernel
theorem dL_law_708 : decode cL_law 708 = .ok (.invokevirtual 80, 3) := by decide +kernel
theorem dL_law_711 : decode cL_law 711 = .ok (.if_icmp .eq 1222, 3) := by decide +kernel
theorem lawc_15 {X : xCX} {b L : Nat} {xs : Nat → Int32} {i : Int32} {M : xMem} (C : xCk X cL_law RL 16) (hS : xSc X b L xs) (h5 : ∀ j, j < 6 → vp_in (i + nI j) L) (hT : TOP M) (kk : ∀ M', TOP M' → WW X 1933 [some (.ref b), some (vr X.1 0), some (vr X.1 146), some (.int i)] [] M') : WW X 703 [some (.ref b), some (vr X.1 0), some (vr X.1 146), some (.int i)] [] M := by
  obtain ⟨v, M1, M2, f1, f2, T2⟩ := (show STEP (fX10_bonus 0 ) (fX11_bonus 146 ) from s_bonus) M hT
  refine r_aload_n (pc := 703) C dL_law_703 rfl rfl ?_
  refine r_vI0 (pc := 704) (o := fX10_bonus 0  M) (F := fun r M' => some (r, M')) (z := (v, M1)) C (fun r M' e => zX10_bonus X.1 0 rfl  M r M' e) rfl (by decide) rfl mX10_bonus lL_77 (by decide) (Nat.le_of_ble_eq_true rfl) dL_law_704 (by rw [f1]; rfl) (fun r M' e => ?_)
  cases e
  refine r_aload_n (pc := 707) C dL_law_707 rfl rfl ?_
  refine r_vI0 (pc := 708) (o := fX11_bonus 146  M1) (F := fun r M' => some (r, M')) (z := (v, M2)) C (fun r M' e => zX11_bonus X.1 146 rfl  M1 r M' e) rfl (by decide) rfl mX11_bonus lL_80 (by decide) (Nat.le_of_ble_eq_true rfl) dL_law_708 (by rw [f2]; rfl) (fun r M' e => ?_)
  cases e
  exact r_icmp_eq (pc := 711) (tgt := 1933) (A := some ()) (B := none) (r := ()) C dL_law_711 (by decide) (if_pos rfl) (fun _ _ => kk M2 T2) (fun _ h => absurd h (by simp))
theorem dL_law_716 : decode cL_law 716 = .ok (.aload_n 1, 1) := by decide +kernel
theorem dL_law_717 : decode cL_law 717 = .ok (.aload_n 0, 1) := by decide +kernel
theorem dL_law_718 : decode cL_law 718 = .ok (.iload_n 3, 1) := by decide +kernel
theorem dL_law_719 : decode cL_law 719 = .ok (.iconst 1, 1) := by decide +kernel
theorem dL_law_720 : decode cL_law 720 = .ok (.iadd, 1) := by decide +kernel
theorem dL_law_721 : decode cL_law 721 = .ok (.iaload, 1) := by decide +kernel
theorem dL_law_722 : decode cL_law 722 = .ok (.aload_n 0, 1) := by decide +kernel
theorem dL_law_723 : decode cL_law 723 = .ok (.iload_n 3, 1) := by decide +kernel
theorem dL_law_724 : decode cL_law 724 = .ok (.iconst 2, 1) := by decide +kernel
theorem dL_law_725 : decode cL_law 725 = .ok (.iadd, 1) := by decide +kernel
theorem dL_law_726 : decode cL_law 726 = .ok (.iaload, 1) := by decide +kernel
theorem dL_law_727 : decode cL_law 727 = .ok (.aload_n 0, 1) := by decide +kernel
theorem dL_law_728 : decode cL_law 728 = .ok (.iload_n 3, 1) := by decide +kernel
theorem dL_law_729 : decode cL_law 729 = .ok (.iconst 3, 1) := by decide +kernel
theorem dL_law_730 : decode cL_law 730 = .ok (.iadd, 1) := by decide +kernel
theorem dL_law_731 : decode cL_law 731 = .ok (.iaload, 1) := by decide +kernel
theorem dL_law_732 : decode cL_law 732 = .ok (.invokevirtual 81, 3) := by decide +kernel
theorem dL_law_735 : decode cL_law 735 = .ok (.aload_n 2, 1) := by decide +kernel
theorem dL_law_736 : decode cL_law 736 = .ok (.aload_n 0, 1) := by decide +kernel
theorem dL_law_737 : decode cL_law 737 = .ok (.iload_n 3, 1) := by decide +kernel
theorem dL_law_738 : decode cL_law 738 = .ok (.iconst 1, 1) := by decide +kernel
theorem dL_law_739 : decode cL_law 739 = .ok (.iadd, 1) := by decide +kernel
theorem dL_law_740 : decode cL_law 740 = .ok (.iaload, 1) := by decide +kernel
theorem dL_law_741 : decode cL_law 741 = .ok (.aload_n 0, 1) := by decide +kernel
theorem dL_law_742 : decode cL_law 742 = .ok (.iload_n 3, 1) := by decide +kernel
theorem dL_law_743 : decode cL_law 743 = .ok (.iconst 2, 1) := by decide +kernel
theorem dL_law_744 : decode cL_law 744 = .ok (.iadd, 1) := by decide +kernel
theorem dL_law_745 : decode cL_law 745 = .ok (.iaload, 1) := by decide +kernel
theorem dL_law_746 : decode cL_law 746 = .ok (.aload_n 0, 1) := by decide +kernel
theorem dL_law_747 : decode cL_law 747 = .ok (.iload_n 3, 1) := by decide +kernel
theorem dL_law_748 : decode cL_law 748 = .ok (.iconst 3, 1) := by decide +kernel
theorem dL_law_749 : decode cL_law 749 = .ok (.iadd, 1) := by decide +kernel
theorem dL_law_750 : decode cL_law 750 = .ok (.iaload, 1) := by decide +kernel
theorem dL_law_751 : decode cL_law 751 = .ok (.invokevirtual 85, 3) := by decide +kernel
theorem dL_law_754 : decode cL_law 754 = .ok (.if_icmp .eq 1179, 3) := by decide +kernel
theorem lawc_16 {X : xCX} {b L : Nat} {xs : Nat → Int32} {i : Int32} {M : xMem} (C : xCk X cL_law RL 16) (hS : xSc X b L xs) (h5 : ∀ j, j < 6 → vp_in (i + nI j) L) (hT : TOP M) (kk : ∀ M', TOP M' → WW X 1933 [some (.ref b), some (vr X.1 0), some (vr X.1 146), some (.int i)] [] M') : WW X 716 [some (.ref b), some (vr X.1 0), some (vr X.1 146), some (.int i)] [] M := by
  obtain ⟨v, M1, M2, f1, f2, T2⟩ := (show STEP (fX10_of 0 (xs (i + nI 1).toNatClampNeg) (xs (i + nI 2).toNatClampNeg) (xs (i + nI 3).toNatClampNeg)) (fX11_of 146 (xs (i + nI 1).toNatClampNeg) (xs (i + nI 2).toNatClampNeg) (xs (i + nI 3).toNatClampNeg)) from s_of) M hT
  refine r_aload_n (pc := 716) C dL_law_716 rfl rfl ?_
  refine r_xld_n (pc := 717) C dL_law_717 rfl rfl rfl ?_
  refine r_iload_n (pc := 718) C dL_law_718 rfl rfl ?_
  refine r_iconst (pc := 719) (v := nI 1) C dL_law_719 (by decide) ?_
  refine r_iadd (pc := 720) C dL_law_720 ?_
  refine r_scld (pc := 721) C hS (h5 1 (by decide)) dL_law_721 ?_
  refine r_xld_n (pc := 722) C dL_law_722 rfl rfl rfl ?_
  refine r_iload_n (pc := 723) C dL_law_723 rfl rfl ?_
  refine r_iconst (pc := 724) (v := nI 2) C dL_law_724 (by decide) ?_
  refine r_iadd (pc := 725) C dL_law_725 ?_
  refine r_scld (pc := 726) C hS (h5 2 (by decide)) dL_law_726 ?_
  refine r_xld_n (pc := 727) C dL_law_727 rfl rfl rfl ?_
  refine r_iload_n (pc := 728) C dL_law_728 rfl rfl ?_
  refine r_iconst (pc := 729) (v := nI 3) C dL_law_729 (by decide) ?_
  refine r_iadd (pc := 730) C dL_law_730 ?_
  refine r_scld (pc := 731) C hS (h5 3 (by decide)) dL_law_731 ?_
  refine r_vI3 (pc := 732) (o := fX10_of 0 (xs (i + nI 1).toNatClampNeg) (xs (i + nI 2).toNatClampNeg) (xs (i + nI 3).toNatClampNeg) M) (F := fun r M' => some (r, M')) (z := (v, M1)) C (fun r M' e => zX10_of X.1 0 rfl (xs (i + nI 1).toNatClampNeg) (xs (i + nI 2).toNatClampNeg) (xs (i + nI 3).toNatClampNeg) M r M' e) rfl (by decide) rfl mX10_of lL_81 (by decide) (Nat.le_of_ble_eq_true rfl) dL_law_732 (by rw [f1]; rfl) (fun r M' e => ?_)
  cases e
  refine r_aload_n (pc := 735) C dL_law_735 rfl rfl ?_
  refine r_xld_n (pc := 736) C dL_law_736 rfl rfl rfl ?_
  refine r_iload_n (pc := 737) C dL_law_737 rfl rfl ?_
  refine r_iconst (pc := 738) (v := nI 1) C dL_law_738 (by decide) ?_
  refine r_iadd (pc := 739) C dL_law_739 ?_
  refine r_scld (pc := 740) C hS (h5 1 (by decide)) dL_law_740 ?_
  refine r_xld_n (pc := 741) C dL_law_741 rfl rfl rfl ?_
  refine r_iload_n (pc := 742) C dL_law_742 rfl rfl ?_
  refine r_iconst (pc := 743) (v := nI 2) C dL_law_743 (by decide) ?_
  refine r_iadd (pc := 744) C dL_law_744 ?_
  refine r_scld (pc := 745) C hS (h5 2 (by decide)) dL_law_745 ?_
  refine r_xld_n (pc := 746) C dL_law_746 rfl rfl rfl ?_
  refine r_iload_n (pc := 747) C dL_law_747 rfl rfl ?_
  refine r_iconst (pc := 748) (v := nI 3) C dL_law_748 (by decide) ?_
  refine r_iadd (pc := 749) C dL_law_749 ?_
  refine r_scld (pc := 750) C hS (h5 3 (by decide)) dL_law_750 ?_
  refine r_vI3 (pc := 751) (o := fX11_of 146 (xs (i + nI 1).toNatClampNeg) (xs (i + nI 2).toNatClampNeg) (xs (i + nI 3).toNatClampNeg) M1) (F := fun r M' => some (r, M')) (z := (v, M2)) C (fun r M' e => zX11_of X.1 146 rfl (xs (i + nI 1).toNatClampNeg) (xs (i + nI 2).toNatClampNeg) (xs (i + nI 3).toNatClampNeg) M1 r M' e) rfl (by decide) rfl mX11_of lL_85 (by decide) (Nat.le_of_ble_eq_true rfl) dL_law_751 (by rw [f2]; rfl) (fun r M' e => ?_)
  cases e
  exact r_icmp_eq (pc := 754) (tgt := 1933) (A := some ()) (B := none) (r := ()) C dL_law_754 (by decide) (if_pos rfl) (fun _ _ => kk M2 T2) (fun _ h => absurd h (by simp))
theorem dL_law_759 : decode cL_law 759 = .ok (.aload_n 1, 1) := by decide +kernel
theorem dL_law_760 : decode cL_law 760 = .ok (.aload_n 0, 1) := by decide +kernel
theorem dL_law_761 : decode cL_law 761 = .ok (.iload_n 3, 1) := by decide +kernel
theorem dL_law_762 : decode cL_law 762 = .ok (.iconst 1, 1) := by decide +kernel
theorem dL_law_763 : decode cL_law 763 = .ok (.iadd, 1) := by decide +kernel
theorem dL_law_764 : decode cL_law 764 = .ok (.iaload, 1) := by decide +kernel
theorem dL_law_765 : decode cL_law 765 = .ok (.aload_n 0, 1) := by decide +kernel
theorem dL_law_766 : decode cL_law 766 = .ok (.iload_n 3, 1) := by decide +kernel
theorem dL_law_767 : decode cL_law 767 = .ok (.iconst 2, 1) := by decide +kernel
theorem dL_law_768 : decode cL_law 768 = .ok (.iadd, 1) := by decide +kernel
theorem dL_law_769 : decode cL_law 769 = .ok (.iaload, 1) := by decide +kernel
theorem dL_law_770 : decode cL_law 770 = .ok (.invokevirtual 86, 3) := by decide +kernel
theorem dL_law_773 : decode cL_law 773 = .ok (.aload_n 2, 1) := by decide +kernel
theorem dL_law_774 : decode cL_law 774 = .ok (.aload_n 0, 1) := by decide +kernel
theorem dL_law_775 : decode cL_law 775 = .ok (.iload_n 3, 1) := by decide +kernel
theorem dL_law_776 : decode cL_law 776 = .ok (.iconst 1, 1) := by decide +kernel
theorem dL_law_777 : decode cL_law 777 = .ok (.iadd, 1) := by decide +kernel
theorem dL_law_778 : decode cL_law 778 = .ok (.iaload, 1) := by decide +kernel
theorem dL_law_779 : decode cL_law 779 = .ok (.aload_n 0, 1) := by decide +kernel
theorem dL_law_780 : decode cL_law 780 = .ok (.iload_n 3, 1) := by decide +kernel
theorem dL_law_781 : decode cL_law 781 = .ok (.iconst 2, 1) := by decide +kernel
theorem dL_law_782 : decode cL_law 782 = .ok (.iadd, 1) := by decide +kernel
theorem dL_law_783 : decode cL_law 783 = .ok (.iaload, 1) := by decide +kernel
theorem dL_law_784 : decode cL_law 784 = .ok (.invokevirtual 89, 3) := by decide +kernel
theorem dL_law_787 : decode cL_law 787 = .ok (.if_icmp .eq 1146, 3) := by decide +kernel
theorem lawc_17 {X : xCX} {b L : Nat} {xs : Nat → Int32} {i : Int32} {M : xMem} (C : xCk X cL_law RL 16) (hS : xSc X b L xs) (h5 : ∀ j, j < 6 → vp_in (i + nI j) L) (hT : TOP M) (kk : ∀ M', TOP M' → WW X 1933 [some (.ref b), some (vr X.1 0), some (vr X.1 146), some (.int i)] [] M') : WW X 759 [some (.ref b), some (vr X.1 0), some (vr X.1 146), some (.int i)] [] M := by
  obtain ⟨v, M1, M2, f1, f2, T2⟩ := (show STEP (fX10_parts 0 (xs (i + nI 1).toNatClampNeg) (xs (i + nI 2).toNatClampNeg)) (fX11_parts 146 (xs (i + nI 1).toNatClampNeg) (xs (i + nI 2).toNatClampNeg)) from s_parts) M hT
  refine r_aload_n (pc := 759) C dL_law_759 rfl rfl ?_
  refine r_xld_n (pc := 760) C dL_law_760 rfl rfl rfl ?_
  refine r_iload_n (pc := 761) C dL_law_761 rfl rfl ?_
  refine r_iconst (pc := 762) (v := nI 1) C dL_law_762 (by decide) ?_
  refine r_iadd (pc := 763) C dL_law_763 ?_
  refine r_scld (pc := 764) C hS (h5 1 (by decide)) dL_law_764 ?_
  refine r_xld_n (pc := 765) C dL_law_765 rfl rfl rfl ?_
  refine r_iload_n (pc := 766) C dL_law_766 rfl rfl ?_
  refine r_iconst (pc := 767) (v := nI 2) C dL_law_767 (by decide) ?_
  refine r_iadd (pc := 768) C dL_law_768 ?_
  refine r_scld (pc := 769) C hS (h5 2 (by decide)) dL_law_769 ?_
  refine r_vI2 (pc := 770) (o := fX10_parts 0 (xs (i + nI 1).toNatClampNeg) (xs (i + nI 2).toNatClampNeg) M) (F := fun r M' => some (r, M')) (z := (v, M1)) C (fun r M' e => zX10_parts X.1 0 rfl (xs (i + nI 1).toNatClampNeg) (xs (i + nI 2).toNatClampNeg) M r M' e) rfl (by decide) rfl mX10_parts lL_86 (by decide) (Nat.le_of_ble_eq_true rfl) dL_law_770 (by rw [f1]; rfl) (fun r M' e => ?_)
  cases e
  refine r_aload_n (pc := 773) C dL_law_773 rfl rfl ?_
  refine r_xld_n (pc := 774) C dL_law_774 rfl rfl rfl ?_
  refine r_iload_n (pc := 775) C dL_law_775 rfl rfl ?_
  refine r_iconst (pc := 776) (v := nI 1) C dL_law_776 (by decide) ?_
  refine r_iadd (pc := 777) C dL_law_777 ?_
  refine r_scld (pc := 778) C hS (h5 1 (by decide)) dL_law_778 ?_
  refine r_xld_n (pc := 779) C dL_law_779 rfl rfl rfl ?_
  refine r_iload_n (pc := 780) C dL_law_780 rfl rfl ?_
  refine r_iconst (pc := 781) (v := nI 2) C dL_law_781 (by decide) ?_
  refine r_iadd (pc := 782) C dL_law_782 ?_
  refine r_scld (pc := 783) C hS (h5 2 (by decide)) dL_law_783 ?_
  refine r_vI2 (pc := 784) (o := fX11_parts 146 (xs (i + nI 1).toNatClampNeg) (xs (i + nI 2).toNatClampNeg) M1) (F := fun r M' => some (r, M')) (z := (v, M2)) C (fun r M' e => zX11_parts X.1 146 rfl (xs (i + nI 1).toNatClampNeg) (xs (i + nI 2).toNatClampNeg) M1 r M' e) rfl (by decide) rfl mX11_parts lL_89 (by decide) (Nat.le_of_ble_eq_true rfl) dL_law_784 (by rw [f2]; rfl) (fun r M' e => ?_)
  cases e
  exact r_icmp_eq (pc := 787) (tgt := 1933) (A := some ()) (B := none) (r := ()) C dL_law_787 (by decide) (if_pos rfl) (fun _ _ => kk M2 T2) (fun _ h => absurd h (by simp))
theorem dL_law_792 : decode cL_law 792 = .ok (.aload_n 1, 1) := by decide +kernel
theorem dL_law_793 : decode cL_law 793 = .ok (.aload_n 0, 1) := by decide +kernel
theorem dL_law_794 : decode cL_law 794 = .ok (.iload_n 3, 1) := by decide +kernel
theorem dL_law_795 : decode cL_law 795 = .ok (.iconst 1, 1) := by decide +kernel
theorem dL_law_796 : decode cL_law 796 = .ok (.iadd, 1) := by decide +kernel
theorem dL_law_797 : decode cL_law 797 = .ok (.iaload, 1) := by decide +kernel
theorem dL_law_798 : decode cL_law 798 = .ok (.aload_n 0, 1) := by decide +kernel
theorem dL_law_799 : decode cL_law 799 = .ok (.iload_n 3, 1) := by decide +kernel
theorem dL_law_800 : decode cL_law 800 = .ok (.iconst 2, 1) := by decide +kernel
theorem dL_law_801 : decode cL_law 801 = .ok (.iadd, 1) := by decide +kernel
theorem dL_law_802 : decode cL_law 802 = .ok (.iaload, 1) := by decide +kernel
theorem dL_law_803 : decode cL_law 803 = .ok (.invokevirtual 90, 3) := by decide +kernel
theorem dL_law_806 : decode cL_law 806 = .ok (.aload_n 2, 1) := by decide +kernel
theorem dL_law_807 : decode cL_law 807 = .ok (.aload_n 0, 1) := by decide +kernel
theorem dL_law_808 : decode cL_law 808 = .ok (.iload_n 3, 1) := by decide +kernel
theorem dL_law_809 : decode cL_law 809 = .ok (.iconst 1, 1) := by decide +kernel
theorem dL_law_810 : decode cL_law 810 = .ok (.iadd, 1) := by decide +kernel
theorem dL_law_811 : decode cL_law 811 = .ok (.iaload, 1) := by decide +kernel
theorem dL_law_812 : decode cL_law 812 = .ok (.aload_n 0, 1) := by decide +kernel
theorem dL_law_813 : decode cL_law 813 = .ok (.iload_n 3, 1) := by decide +kernel
theorem dL_law_814 : decode cL_law 814 = .ok (.iconst 2, 1) := by decide +kernel
theorem dL_law_815 : decode cL_law 815 = .ok (.iadd, 1) := by decide +kernel
theorem dL_law_816 : decode cL_law 816 = .ok (.iaload, 1) := by decide +kernel
theorem dL_law_817 : decode cL_law 817 = .ok (.invokevirtual 93, 3) := by decide +kernel
theorem dL_law_820 : decode cL_law 820 = .ok (.if_icmp .eq 1113, 3) := by decide +kernel
theorem lawc_18 {X : xCX} {b L : Nat} {xs : Nat → Int32} {i : Int32} {M : xMem} (C : xCk X cL_law RL 16) (hS : xSc X b L xs) (h5 : ∀ j, j < 6 → vp_in (i + nI j) L) (hT : TOP M) (kk : ∀ M', TOP M' → WW X 1933 [some (.ref b), some (vr X.1 0), some (vr X.1 146), some (.int i)] [] M') : WW X 792 [some (.ref b), some (vr X.1 0), some (vr X.1 146), some (.int i)] [] M := by
  obtain ⟨v, M1, M2, f1, f2, T2⟩ := (show STEP (fX10_raidOf 0 (xs (i + nI 1).toNatClampNeg) (xs (i + nI 2).toNatClampNeg)) (fX11_raidOf 146 (xs (i + nI 1).toNatClampNeg) (xs (i + nI 2).toNatClampNeg)) from s_raidOf) M hT
  refine r_aload_n (pc := 792) C dL_law_792 rfl rfl ?_
  refine r_xld_n (pc := 793) C dL_law_793 rfl rfl rfl ?_
  refine r_iload_n (pc := 794) C dL_law_794 rfl rfl ?_
  refine r_iconst (pc := 795) (v := nI 1) C dL_law_795 (by decide) ?_
  refine r_iadd (pc := 796) C dL_law_796 ?_
  refine r_scld (pc := 797) C hS (h5 1 (by decide)) dL_law_797 ?_
  refine r_xld_n (pc := 798) C dL_law_798 rfl rfl rfl ?_
  refine r_iload_n (pc := 799) C dL_law_799 rfl rfl ?_
  refine r_iconst (pc := 800) (v := nI 2) C dL_law_800 (by decide) ?_
  refine r_iadd (pc := 801) C dL_law_801 ?_
  refine r_scld (pc := 802) C hS (h5 2 (by decide)) dL_law_802 ?_
  refine r_vI2 (pc := 803) (o := fX10_raidOf 0 (xs (i + nI 1).toNatClampNeg) (xs (i + nI 2).toNatClampNeg) M) (F := fun r M' => some (r, M')) (z := (v, M1)) C (fun r M' e => zX10_raidOf X.1 0 rfl (xs (i + nI 1).toNatClampNeg) (xs (i + nI 2).toNatClampNeg) M r M' e) rfl (by decide) rfl mX10_raidOf lL_90 (by decide) (Nat.le_of_ble_eq_true rfl) dL_law_803 (by rw [f1]; rfl) (fun r M' e => ?_)
  cases e
  refine r_aload_n (pc := 806) C dL_law_806 rfl rfl ?_
  refine r_xld_n (pc := 807) C dL_law_807 rfl rfl rfl ?_
  refine r_iload_n (pc := 808) C dL_law_808 rfl rfl ?_
  refine r_iconst (pc := 809) (v := nI 1) C dL_law_809 (by decide) ?_
  refine r_iadd (pc := 810) C dL_law_810 ?_
  refine r_scld (pc := 811) C hS (h5 1 (by decide)) dL_law_811 ?_
  refine r_xld_n (pc := 812) C dL_law_812 rfl rfl rfl ?_
  refine r_iload_n (pc := 813) C dL_law_813 rfl rfl ?_
  refine r_iconst (pc := 814) (v := nI 2) C dL_law_814 (by decide) ?_
  refine r_iadd (pc := 815) C dL_law_815 ?_
  refine r_scld (pc := 816) C hS (h5 2 (by decide)) dL_law_816 ?_
  refine r_vI2 (pc := 817) (o := fX11_raidOf 146 (xs (i + nI 1).toNatClampNeg) (xs (i + nI 2).toNatClampNeg) M1) (F := fun r M' => some (r, M')) (z := (v, M2)) C (fun r M' e => zX11_raidOf X.1 146 rfl (xs (i + nI 1).toNatClampNeg) (xs (i + nI 2).toNatClampNeg) M1 r M' e) rfl (by decide) rfl mX11_raidOf lL_93 (by decide) (Nat.le_of_ble_eq_true rfl) dL_law_817 (by rw [f2]; rfl) (fun r M' e => ?_)
  cases e
  exact r_icmp_eq (pc := 820) (tgt := 1933) (A := some ()) (B := none) (r := ()) C dL_law_820 (by decide) (if_pos rfl) (fun _ _ => kk M2 T2) (fun _ h => absurd h (by simp))
theorem dL_law_825 : decode cL_law 825 = .ok (.aload_n 1, 1) := by decide +kernel
theorem dL_law_826 : decode cL_law 826 = .ok (.aload_n 0, 1) := by decide +kernel
theorem dL_law_827 : decode cL_law 827 = .ok (.iload_n 3, 1) := by decide +kernel
theorem dL_law_828 : decode cL_law 828 = .ok (.iconst 1, 1) := by decide +kernel
theorem dL_law_829 : decode cL_law 829 = .ok (.iadd, 1) := by decide +kernel
theorem dL_law_830 : decode cL_law 830 = .ok (.iaload, 1) := by decide +kernel
theorem dL_law_831 : decode cL_law 831 = .ok (.invokevirtual 94, 3) := by decide +kernel
theorem dL_law_834 : decode cL_law 834 = .ok (.aload_n 2, 1) := by decide +kernel
theorem dL_law_835 : decode cL_law 835 = .ok (.aload_n 0, 1) := by decide +kernel
theorem dL_law_836 : decode cL_law 836 = .ok (.iload_n 3, 1) := by decide +kernel
theorem dL_law_837 : decode cL_law 837 = .ok (.iconst 1, 1) := by decide +kernel
theorem dL_law_838 : decode cL_law 838 = .ok (.iadd, 1) := by decide +kernel
theorem dL_law_839 : decode cL_law 839 = .ok (.iaload, 1) := by decide +kernel
theorem dL_law_840 : decode cL_law 840 = .ok (.invokevirtual 97, 3) := by decide +kernel
theorem dL_law_843 : decode cL_law 843 = .ok (.if_icmp .eq 1090, 3) := by decide +kernel
theorem lawc_19 {X : xCX} {b L : Nat} {xs : Nat → Int32} {i : Int32} {M : xMem} (C : xCk X cL_law RL 16) (hS : xSc X b L xs) (h5 : ∀ j, j < 6 → vp_in (i + nI j) L) (hT : TOP M) (kk : ∀ M', TOP M' → WW X 1933 [some (.ref b), some (vr X.1 0), some (vr X.1 146), some (.int i)] [] M') : WW X 825 [some (.ref b), some (vr X.1 0), some (vr X.1 146), some (.int i)] [] M := by
  obtain ⟨v, M1, M2, f1, f2, T2⟩ := (show STEP (fX10_lead 0 (xs (i + nI 1).toNatClampNeg)) (fX11_lead 146 (xs (i + nI 1).toNatClampNeg)) from s_lead) M hT
  refine r_aload_n (pc := 825) C dL_law_825 rfl rfl ?_
  refine r_xld_n (pc := 826) C dL_law_826 rfl rfl rfl ?_
  refine r_iload_n (pc := 827) C dL_law_827 rfl rfl ?_
  refine r_iconst (pc := 828) (v := nI 1) C dL_law_828 (by decide) ?_
  refine r_iadd (pc := 829) C dL_law_829 ?_
  refine r_scld (pc := 830) C hS (h5 1 (by decide)) dL_law_830 ?_
  refine r_vI1 (pc := 831) (o := fX10_lead 0 (xs (i + nI 1).toNatClampNeg) M) (F := fun r M' => some (r, M')) (z := (v, M1)) C (fun r M' e => zX10_lead X.1 0 rfl (xs (i + nI 1).toNatClampNeg) M r M' e) rfl (by decide) rfl mX10_lead lL_94 (by decide) (Nat.le_of_ble_eq_true rfl) dL_law_831 (by rw [f1]; rfl) (fun r M' e => ?_)
  cases e
  refine r_aload_n (pc := 834) C dL_law_834 rfl rfl ?_
  refine r_xld_n (pc := 835) C dL_law_835 rfl rfl rfl ?_
  refine r_iload_n (pc := 836) C dL_law_836 rfl rfl ?_
  refine r_iconst (pc := 837) (v := nI 1) C dL_law_837 (by decide) ?_
  refine r_iadd (pc := 838) C dL_law_838 ?_
  refine r_scld (pc := 839) C hS (h5 1 (by decide)) dL_law_839 ?_
  refine r_vI1 (pc := 840) (o := fX11_lead 146 (xs (i + nI 1).toNatClampNeg) M1) (F := fun r M' => some (r, M')) (z := (v, M2)) C (fun r M' e => zX11_lead X.1 146 rfl (xs (i + nI 1).toNatClampNeg) M1 r M' e) rfl (by decide) rfl mX11_lead lL_97 (by decide) (Nat.le_of_ble_eq_true rfl) dL_law_840 (by rw [f2]; rfl) (fun r M' e => ?_)
  cases e
  exact r_icmp_eq (pc := 843) (tgt := 1933) (A := some ()) (B := none) (r := ()) C dL_law_843 (by decide) (if_pos rfl) (fun _ _ => kk M2 T2) (fun _ h => absurd h (by simp))
theorem dL_law_848 : decode cL_law 848 = .ok (.aload_n 1, 1) := by decide +kernel
theorem dL_law_849 : decode cL_law 849 = .ok (.invokevirtual 98, 3) := by decide +kernel
theorem dL_law_852 : decode cL_law 852 = .ok (.aload_n 2, 1) := by decide +kernel
theorem dL_law_853 : decode cL_law 853 = .ok (.invokevirtual 101, 3) := by decide +kernel
theorem dL_law_856 : decode cL_law 856 = .ok (.if_icmp .eq 1077, 3) := by decide +kernel
theorem lawc_20 {X : xCX} {b L : Nat} {xs : Nat → Int32} {i : Int32} {M : xMem} (C : xCk X cL_law RL 16) (hS : xSc X b L xs) (h5 : ∀ j, j < 6 → vp_in (i + nI j) L) (hT : TOP M) (kk : ∀ M', TOP M' → WW X 1933 [some (.ref b), some (vr X.1 0), some (vr X.1 146), some (.int i)] [] M') : WW X 848 [some (.ref b), some (vr X.1 0), some (vr X.1 146), some (.int i)] [] M := by
  obtain ⟨v, M1, M2, f1, f2, T2⟩ := (show STEP (fX10_changes 0 ) (fX11_changes 146 ) from s_changes) M hT
  refine r_aload_n (pc := 848) C dL_law_848 rfl rfl ?_
  refine r_vI0 (pc := 849) (o := fX10_changes 0  M) (F := fun r M' => some (r, M')) (z := (v, M1)) C (fun r M' e => zX10_changes X.1 0 rfl  M r M' e) rfl (by decide) rfl mX10_changes lL_98 (by decide) (Nat.le_of_ble_eq_true rfl) dL_law_849 (by rw [f1]; rfl) (fun r M' e => ?_)
  cases e
  refine r_aload_n (pc := 852) C dL_law_852 rfl rfl ?_
  refine r_vI0 (pc := 853) (o := fX11_changes 146  M1) (F := fun r M' => some (r, M')) (z := (v, M2)) C (fun r M' e => zX11_changes X.1 146 rfl  M1 r M' e) rfl (by decide) rfl mX11_changes lL_101 (by decide) (Nat.le_of_ble_eq_true rfl) dL_law_853 (by rw [f2]; rfl) (fun r M' e => ?_)
  cases e
  exact r_icmp_eq (pc := 856) (tgt := 1933) (A := some ()) (B := none) (r := ()) C dL_law_856 (by decide) (if_pos rfl) (fun _ _ => kk M2 T2) (fun _ h => absurd h (by simp))
theorem dL_law_861 : decode cL_law 861 = .ok (.aload_n 1, 1) := by decide +kernel
theorem dL_law_862 : decode cL_law 862 = .ok (.aload_n 0, 1) := by decide +kernel
theorem dL_law_863 : decode cL_law 863 = .ok (.iload_n 3, 1) := by decide +kernel
theorem dL_law_864 : decode cL_law 864 = .ok (.iconst 1, 1) := by decide +kernel
theorem dL_law_865 : decode cL_law 865 = .ok (.iadd, 1) := by decide +kernel
theorem dL_law_866 : decode cL_law 866 = .ok (.iaload, 1) := by decide +kernel
theorem dL_law_867 : decode cL_law 867 = .ok (.invokevirtual 102, 3) := by decide +kernel
theorem dL_law_870 : decode cL_law 870 = .ok (.aload_n 2, 1) := by decide +kernel
theorem dL_law_871 : decode cL_law 871 = .ok (.aload_n 0, 1) := by decide +kernel
theorem dL_law_872 : decode cL_law 872 = .ok (.iload_n 3, 1) := by decide +kernel
theorem dL_law_873 : decode cL_law 873 = .ok (.iconst 1, 1) := by decide +kernel
theorem dL_law_874 : decode cL_law 874 = .ok (.iadd, 1) := by decide +kernel
theorem dL_law_875 : decode cL_law 875 = .ok (.iaload, 1) := by decide +kernel
theorem dL_law_876 : decode cL_law 876 = .ok (.invokevirtual 105, 3) := by decide +kernel
theorem dL_law_879 : decode cL_law 879 = .ok (.if_icmp .eq 1054, 3) := by decide +kernel
theorem lawc_21 {X : xCX} {b L : Nat} {xs : Nat → Int32} {i : Int32} {M : xMem} (C : xCk X cL_law RL 16) (hS : xSc X b L xs) (h5 : ∀ j, j < 6 → vp_in (i + nI j) L) (hT : TOP M) (kk : ∀ M', TOP M' → WW X 1933 [some (.ref b), some (vr X.1 0), some (vr X.1 146), some (.int i)] [] M') : WW X 861 [some (.ref b), some (vr X.1 0), some (vr X.1 146), some (.int i)] [] M := by
  obtain ⟨v, M1, M2, f1, f2, T2⟩ := (show STEP (fX10_run 0 (xs (i + nI 1).toNatClampNeg)) (fX11_run 146 (xs (i + nI 1).toNatClampNeg)) from s_run) M hT
  refine r_aload_n (pc := 861) C dL_law_861 rfl rfl ?_
  refine r_xld_n (pc := 862) C dL_law_862 rfl rfl rfl ?_
  refine r_iload_n (pc := 863) C dL_law_863 rfl rfl ?_
  refine r_iconst (pc := 864) (v := nI 1) C dL_law_864 (by decide) ?_
  refine r_iadd (pc := 865) C dL_law_865 ?_
  refine r_scld (pc := 866) C hS (h5 1 (by decide)) dL_law_866 ?_
  refine r_vI1 (pc := 867) (o := fX10_run 0 (xs (i + nI 1).toNatClampNeg) M) (F := fun r M' => some (r, M')) (z := (v, M1)) C (fun r M' e => zX10_run X.1 0 rfl (xs (i + nI 1).toNatClampNeg) M r M' e) rfl (by decide) rfl mX10_run lL_102 (by decide) (Nat.le_of_ble_eq_true rfl) dL_law_867 (by rw [f1]; rfl) (fun r M' e => ?_)
  cases e
  refine r_aload_n (pc := 870) C dL_law_870 rfl rfl ?_
  refine r_xld_n (pc := 871) C dL_law_871 rfl rfl rfl ?_
  refine r_iload_n (pc := 872) C dL_law_872 rfl rfl ?_
  refine r_iconst (pc := 873) (v := nI 1) C dL_law_873 (by decide) ?_
  refine r_iadd (pc := 874) C dL_law_874 ?_
  refine r_scld (pc := 875) C hS (h5 1 (by decide)) dL_law_875 ?_
  refine r_vI1 (pc := 876) (o := fX11_run 146 (xs (i + nI 1).toNatClampNeg) M1) (F := fun r M' => some (r, M')) (z := (v, M2)) C (fun r M' e => zX11_run X.1 146 rfl (xs (i + nI 1).toNatClampNeg) M1 r M' e) rfl (by decide) rfl mX11_run lL_105 (by decide) (Nat.le_of_ble_eq_true rfl) dL_law_876 (by rw [f2]; rfl) (fun r M' e => ?_)
  cases e
  exact r_icmp_eq (pc := 879) (tgt := 1933) (A := some ()) (B := none) (r := ()) C dL_law_879 (by decide) (if_pos rfl) (fun _ _ => kk M2 T2) (fun _ h => absurd h (by simp))
