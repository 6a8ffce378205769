/-! ===== the law's cases 22.. ===== -/
theorem dL_law_884 : decode cL_law 884 = .ok (.aload_n 1, 1) := by decide +kernel
theorem dL_law_885 : decode cL_law 885 = .ok (.aload_n 0, 1) := by decide +kernel
theorem dL_law_886 : decode cL_law 886 = .ok (.iload_n 3, 1) := by decide +kernel
theorem dL_law_887 : decode cL_law 887 = .ok (.iconst 1, 1) := by decide +kernel
theorem dL_law_888 : decode cL_law 888 = .ok (.iadd, 1) := by decide +kernel
theorem dL_law_889 : decode cL_law 889 = .ok (.iaload, 1) := by decide +kernel
theorem dL_law_890 : decode cL_law 890 = .ok (.aload_n 0, 1) := by decide +kernel
theorem dL_law_891 : decode cL_law 891 = .ok (.iload_n 3, 1) := by decide +kernel
theorem dL_law_892 : decode cL_law 892 = .ok (.iconst 2, 1) := by decide +kernel
theorem dL_law_893 : decode cL_law 893 = .ok (.iadd, 1) := by decide +kernel
theorem dL_law_894 : decode cL_law 894 = .ok (.iaload, 1) := by decide +kernel
theorem dL_law_895 : decode cL_law 895 = .ok (.invokevirtual 106, 3) := by decide +kernel
theorem dL_law_898 : decode cL_law 898 = .ok (.aload_n 2, 1) := by decide +kernel
theorem dL_law_899 : decode cL_law 899 = .ok (.aload_n 0, 1) := by decide +kernel
theorem dL_law_900 : decode cL_law 900 = .ok (.iload_n 3, 1) := by decide +kernel
theorem dL_law_901 : decode cL_law 901 = .ok (.iconst 1, 1) := by decide +kernel
theorem dL_law_902 : decode cL_law 902 = .ok (.iadd, 1) := by decide +kernel
theorem dL_law_903 : decode cL_law 903 = .ok (.iaload, 1) := by decide +kernel
theorem dL_law_904 : decode cL_law 904 = .ok (.aload_n 0, 1) := by decide +kernel
theorem dL_law_905 : decode cL_law 905 = .ok (.iload_n 3, 1) := by decide +kernel
theorem dL_law_906 : decode cL_law 906 = .ok (.iconst 2, 1) := by decide +kernel
theorem dL_law_907 : decode cL_law 907 = .ok (.iadd, 1) := by decide +kernel
theorem dL_law_908 : decode cL_law 908 = .ok (.iaload, 1) := by decide +kernel
theorem dL_law_909 : decode cL_law 909 = .ok (.invokevirtual 109, 3) := by decide +kernel
theorem dL_law_912 : decode cL_law 912 = .ok (.if_icmp .eq 1021, 3) := by decide +kernel
theorem lawc_22 {X : xCX} {b L : Nat} {xs : Nat → Int32} {i : Int32} {M : xMem} (C : xCk X cL_law RL 16) (hS : xSc X b L xs) (h5 : ∀ j, j < 6 → vp_in (i + nI j) L) (hT : TOP M) (kk : ∀ M', TOP M' → WW X 1933 [some (.ref b), some (vr X.1 0), some (vr X.1 146), some (.int i)] [] M') : WW X 884 [some (.ref b), some (vr X.1 0), some (vr X.1 146), some (.int i)] [] M := by
  obtain ⟨v, M1, M2, f1, f2, T2⟩ := (show STEP (fX10_best 0 (xs (i + nI 1).toNatClampNeg) (xs (i + nI 2).toNatClampNeg)) (fX11_best 146 (xs (i + nI 1).toNatClampNeg) (xs (i + nI 2).toNatClampNeg)) from s_best) M hT
  refine r_aload_n (pc := 884) C dL_law_884 rfl rfl ?_
  refine r_xld_n (pc := 885) C dL_law_885 rfl rfl rfl ?_
  refine r_iload_n (pc := 886) C dL_law_886 rfl rfl ?_
  refine r_iconst (pc := 887) (v := nI 1) C dL_law_887 (by decide) ?_
  refine r_iadd (pc := 888) C dL_law_888 ?_
  refine r_scld (pc := 889) C hS (h5 1 (by decide)) dL_law_889 ?_
  refine r_xld_n (pc := 890) C dL_law_890 rfl rfl rfl ?_
  refine r_iload_n (pc := 891) C dL_law_891 rfl rfl ?_
  refine r_iconst (pc := 892) (v := nI 2) C dL_law_892 (by decide) ?_
  refine r_iadd (pc := 893) C dL_law_893 ?_
  refine r_scld (pc := 894) C hS (h5 2 (by decide)) dL_law_894 ?_
  refine r_vI2 (pc := 895) (o := fX10_best 0 (xs (i + nI 1).toNatClampNeg) (xs (i + nI 2).toNatClampNeg) M) (F := fun r M' => some (r, M')) (z := (v, M1)) C (fun r M' e => zX10_best X.1 0 rfl (xs (i + nI 1).toNatClampNeg) (xs (i + nI 2).toNatClampNeg) M r M' e) rfl (by decide) rfl mX10_best lL_106 (by decide) (Nat.le_of_ble_eq_true rfl) dL_law_895 (by rw [f1]; rfl) (fun r M' e => ?_)
  cases e
  refine r_aload_n (pc := 898) C dL_law_898 rfl rfl ?_
  refine r_xld_n (pc := 899) C dL_law_899 rfl rfl rfl ?_
  refine r_iload_n (pc := 900) C dL_law_900 rfl rfl ?_
  refine r_iconst (pc := 901) (v := nI 1) C dL_law_901 (by decide) ?_
  refine r_iadd (pc := 902) C dL_law_902 ?_
  refine r_scld (pc := 903) C hS (h5 1 (by decide)) dL_law_903 ?_
  refine r_xld_n (pc := 904) C dL_law_904 rfl rfl rfl ?_
  refine r_iload_n (pc := 905) C dL_law_905 rfl rfl ?_
  refine r_iconst (pc := 906) (v := nI 2) C dL_law_906 (by decide) ?_
  refine r_iadd (pc := 907) C dL_law_907 ?_
  refine r_scld (pc := 908) C hS (h5 2 (by decide)) dL_law_908 ?_
  refine r_vI2 (pc := 909) (o := fX11_best 146 (xs (i + nI 1).toNatClampNeg) (xs (i + nI 2).toNatClampNeg) M1) (F := fun r M' => some (r, M')) (z := (v, M2)) C (fun r M' e => zX11_best X.1 146 rfl (xs (i + nI 1).toNatClampNeg) (xs (i + nI 2).toNatClampNeg) M1 r M' e) rfl (by decide) rfl mX11_best lL_109 (by decide) (Nat.le_of_ble_eq_true rfl) dL_law_909 (by rw [f2]; rfl) (fun r M' e => ?_)
  cases e
  exact r_icmp_eq (pc := 912) (tgt := 1933) (A := some ()) (B := none) (r := ()) C dL_law_912 (by decide) (if_pos rfl) (fun _ _ => kk M2 T2) (fun _ h => absurd h (by simp))
theorem dL_law_917 : decode cL_law 917 = .ok (.aload_n 1, 1) := by decide +kernel
theorem dL_law_918 : decode cL_law 918 = .ok (.aload_n 0, 1) := by decide +kernel
theorem dL_law_919 : decode cL_law 919 = .ok (.iload_n 3, 1) := by decide +kernel
theorem dL_law_920 : decode cL_law 920 = .ok (.iconst 1, 1) := by decide +kernel
theorem dL_law_921 : decode cL_law 921 = .ok (.iadd, 1) := by decide +kernel
theorem dL_law_922 : decode cL_law 922 = .ok (.iaload, 1) := by decide +kernel
theorem dL_law_923 : decode cL_law 923 = .ok (.aload_n 0, 1) := by decide +kernel
theorem dL_law_924 : decode cL_law 924 = .ok (.iload_n 3, 1) := by decide +kernel
theorem dL_law_925 : decode cL_law 925 = .ok (.iconst 2, 1) := by decide +kernel
theorem dL_law_926 : decode cL_law 926 = .ok (.iadd, 1) := by decide +kernel
theorem dL_law_927 : decode cL_law 927 = .ok (.iaload, 1) := by decide +kernel
theorem dL_law_928 : decode cL_law 928 = .ok (.aload_n 0, 1) := by decide +kernel
theorem dL_law_929 : decode cL_law 929 = .ok (.iload_n 3, 1) := by decide +kernel
theorem dL_law_930 : decode cL_law 930 = .ok (.iconst 3, 1) := by decide +kernel
theorem dL_law_931 : decode cL_law 931 = .ok (.iadd, 1) := by decide +kernel
theorem dL_law_932 : decode cL_law 932 = .ok (.iaload, 1) := by decide +kernel
theorem dL_law_933 : decode cL_law 933 = .ok (.aload_n 0, 1) := by decide +kernel
theorem dL_law_934 : decode cL_law 934 = .ok (.iload_n 3, 1) := by decide +kernel
theorem dL_law_935 : decode cL_law 935 = .ok (.iconst 4, 1) := by decide +kernel
theorem dL_law_936 : decode cL_law 936 = .ok (.iadd, 1) := by decide +kernel
theorem dL_law_937 : decode cL_law 937 = .ok (.iaload, 1) := by decide +kernel
theorem dL_law_938 : decode cL_law 938 = .ok (.invokevirtual 110, 3) := by decide +kernel
theorem dL_law_941 : decode cL_law 941 = .ok (.aload_n 2, 1) := by decide +kernel
theorem dL_law_942 : decode cL_law 942 = .ok (.aload_n 0, 1) := by decide +kernel
theorem dL_law_943 : decode cL_law 943 = .ok (.iload_n 3, 1) := by decide +kernel
theorem dL_law_944 : decode cL_law 944 = .ok (.iconst 1, 1) := by decide +kernel
theorem dL_law_945 : decode cL_law 945 = .ok (.iadd, 1) := by decide +kernel
theorem dL_law_946 : decode cL_law 946 = .ok (.iaload, 1) := by decide +kernel
theorem dL_law_947 : decode cL_law 947 = .ok (.aload_n 0, 1) := by decide +kernel
theorem dL_law_948 : decode cL_law 948 = .ok (.iload_n 3, 1) := by decide +kernel
theorem dL_law_949 : decode cL_law 949 = .ok (.iconst 2, 1) := by decide +kernel
theorem dL_law_950 : decode cL_law 950 = .ok (.iadd, 1) := by decide +kernel
theorem dL_law_951 : decode cL_law 951 = .ok (.iaload, 1) := by decide +kernel
theorem dL_law_952 : decode cL_law 952 = .ok (.aload_n 0, 1) := by decide +kernel
theorem dL_law_953 : decode cL_law 953 = .ok (.iload_n 3, 1) := by decide +kernel
theorem dL_law_954 : decode cL_law 954 = .ok (.iconst 3, 1) := by decide +kernel
theorem dL_law_955 : decode cL_law 955 = .ok (.iadd, 1) := by decide +kernel
theorem dL_law_956 : decode cL_law 956 = .ok (.iaload, 1) := by decide +kernel
theorem dL_law_957 : decode cL_law 957 = .ok (.aload_n 0, 1) := by decide +kernel
theorem dL_law_958 : decode cL_law 958 = .ok (.iload_n 3, 1) := by decide +kernel
theorem dL_law_959 : decode cL_law 959 = .ok (.iconst 4, 1) := by decide +kernel
theorem dL_law_960 : decode cL_law 960 = .ok (.iadd, 1) := by decide +kernel
theorem dL_law_961 : decode cL_law 961 = .ok (.iaload, 1) := by decide +kernel
theorem dL_law_962 : decode cL_law 962 = .ok (.invokevirtual 114, 3) := by decide +kernel
theorem dL_law_965 : decode cL_law 965 = .ok (.if_icmp .eq 968, 3) := by decide +kernel
theorem lawc_23 {X : xCX} {b L : Nat} {xs : Nat → Int32} {i : Int32} {M : xMem} (C : xCk X cL_law RL 16) (hS : xSc X b L xs) (h5 : ∀ j, j < 6 → vp_in (i + nI j) L) (hT : TOP M) (kk : ∀ M', TOP M' → WW X 1933 [some (.ref b), some (vr X.1 0), some (vr X.1 146), some (.int i)] [] M') : WW X 917 [some (.ref b), some (vr X.1 0), some (vr X.1 146), some (.int i)] [] M := by
  obtain ⟨v, M1, M2, f1, f2, T2⟩ := (show STEP (fX10_rate 0 (xs (i + nI 1).toNatClampNeg) (xs (i + nI 2).toNatClampNeg) (xs (i + nI 3).toNatClampNeg) (xs (i + nI 4).toNatClampNeg)) (fX11_rate 146 (xs (i + nI 1).toNatClampNeg) (xs (i + nI 2).toNatClampNeg) (xs (i + nI 3).toNatClampNeg) (xs (i + nI 4).toNatClampNeg)) from s_rate) M hT
  refine r_aload_n (pc := 917) C dL_law_917 rfl rfl ?_
  refine r_xld_n (pc := 918) C dL_law_918 rfl rfl rfl ?_
  refine r_iload_n (pc := 919) C dL_law_919 rfl rfl ?_
  refine r_iconst (pc := 920) (v := nI 1) C dL_law_920 (by decide) ?_
  refine r_iadd (pc := 921) C dL_law_921 ?_
  refine r_scld (pc := 922) C hS (h5 1 (by decide)) dL_law_922 ?_
  refine r_xld_n (pc := 923) C dL_law_923 rfl rfl rfl ?_
  refine r_iload_n (pc := 924) C dL_law_924 rfl rfl ?_
  refine r_iconst (pc := 925) (v := nI 2) C dL_law_925 (by decide) ?_
  refine r_iadd (pc := 926) C dL_law_926 ?_
  refine r_scld (pc := 927) C hS (h5 2 (by decide)) dL_law_927 ?_
  refine r_xld_n (pc := 928) C dL_law_928 rfl rfl rfl ?_
  refine r_iload_n (pc := 929) C dL_law_929 rfl rfl ?_
  refine r_iconst (pc := 930) (v := nI 3) C dL_law_930 (by decide) ?_
  refine r_iadd (pc := 931) C dL_law_931 ?_
  refine r_scld (pc := 932) C hS (h5 3 (by decide)) dL_law_932 ?_
  refine r_xld_n (pc := 933) C dL_law_933 rfl rfl rfl ?_
  refine r_iload_n (pc := 934) C dL_law_934 rfl rfl ?_
  refine r_iconst (pc := 935) (v := nI 4) C dL_law_935 (by decide) ?_
  refine r_iadd (pc := 936) C dL_law_936 ?_
  refine r_scld (pc := 937) C hS (h5 4 (by decide)) dL_law_937 ?_
  refine r_vI4 (pc := 938) (o := fX10_rate 0 (xs (i + nI 1).toNatClampNeg) (xs (i + nI 2).toNatClampNeg) (xs (i + nI 3).toNatClampNeg) (xs (i + nI 4).toNatClampNeg) M) (F := fun r M' => some (r, M')) (z := (v, M1)) C (fun r M' e => zX10_rate X.1 0 rfl (xs (i + nI 1).toNatClampNeg) (xs (i + nI 2).toNatClampNeg) (xs (i + nI 3).toNatClampNeg) (xs (i + nI 4).toNatClampNeg) M r M' e) rfl (by decide) rfl mX10_rate lL_110 (by decide) (Nat.le_of_ble_eq_true rfl) dL_law_938 (by rw [f1]; rfl) (fun r M' e => ?_)
  cases e
  refine r_aload_n (pc := 941) C dL_law_941 rfl rfl ?_
  refine r_xld_n (pc := 942) C dL_law_942 rfl rfl rfl ?_
  refine r_iload_n (pc := 943) C dL_law_943 rfl rfl ?_
  refine r_iconst (pc := 944) (v := nI 1) C dL_law_944 (by decide) ?_
  refine r_iadd (pc := 945) C dL_law_945 ?_
  refine r_scld (pc := 946) C hS (h5 1 (by decide)) dL_law_946 ?_
  refine r_xld_n (pc := 947) C dL_law_947 rfl rfl rfl ?_
  refine r_iload_n (pc := 948) C dL_law_948 rfl rfl ?_
  refine r_iconst (pc := 949) (v := nI 2) C dL_law_949 (by decide) ?_
  refine r_iadd (pc := 950) C dL_law_950 ?_
  refine r_scld (pc := 951) C hS (h5 2 (by decide)) dL_law_951 ?_
  refine r_xld_n (pc := 952) C dL_law_952 rfl rfl rfl ?_
  refine r_iload_n (pc := 953) C dL_law_953 rfl rfl ?_
  refine r_iconst (pc := 954) (v := nI 3) C dL_law_954 (by decide) ?_
  refine r_iadd (pc := 955) C dL_law_955 ?_
  refine r_scld (pc := 956) C hS (h5 3 (by decide)) dL_law_956 ?_
  refine r_xld_n (pc := 957) C dL_law_957 rfl rfl rfl ?_
  refine r_iload_n (pc := 958) C dL_law_958 rfl rfl ?_
  refine r_iconst (pc := 959) (v := nI 4) C dL_law_959 (by decide) ?_
  refine r_iadd (pc := 960) C dL_law_960 ?_
  refine r_scld (pc := 961) C hS (h5 4 (by decide)) dL_law_961 ?_
  refine r_vI4 (pc := 962) (o := fX11_rate 146 (xs (i + nI 1).toNatClampNeg) (xs (i + nI 2).toNatClampNeg) (xs (i + nI 3).toNatClampNeg) (xs (i + nI 4).toNatClampNeg) M1) (F := fun r M' => some (r, M')) (z := (v, M2)) C (fun r M' e => zX11_rate X.1 146 rfl (xs (i + nI 1).toNatClampNeg) (xs (i + nI 2).toNatClampNeg) (xs (i + nI 3).toNatClampNeg) (xs (i + nI 4).toNatClampNeg) M1 r M' e) rfl (by decide) rfl mX11_rate lL_114 (by decide) (Nat.le_of_ble_eq_true rfl) dL_law_962 (by rw [f2]; rfl) (fun r M' e => ?_)
  cases e
  exact r_icmp_eq (pc := 965) (tgt := 1933) (A := some ()) (B := none) (r := ()) C dL_law_965 (by decide) (if_pos rfl) (fun _ _ => kk M2 T2) (fun _ h => absurd h (by simp))
theorem dL_law_970 : decode cL_law 970 = .ok (.aload_n 1, 1) := by decide +kernel
theorem dL_law_971 : decode cL_law 971 = .ok (.aload_n 0, 1) := by decide +kernel
theorem dL_law_972 : decode cL_law 972 = .ok (.iload_n 3, 1) := by decide +kernel
theorem dL_law_973 : decode cL_law 973 = .ok (.iconst 1, 1) := by decide +kernel
theorem dL_law_974 : decode cL_law 974 = .ok (.iadd, 1) := by decide +kernel
theorem dL_law_975 : decode cL_law 975 = .ok (.iaload, 1) := by decide +kernel
theorem dL_law_976 : decode cL_law 976 = .ok (.aload_n 0, 1) := by decide +kernel
theorem dL_law_977 : decode cL_law 977 = .ok (.iload_n 3, 1) := by decide +kernel
theorem dL_law_978 : decode cL_law 978 = .ok (.iconst 2, 1) := by decide +kernel
theorem dL_law_979 : decode cL_law 979 = .ok (.iadd, 1) := by decide +kernel
theorem dL_law_980 : decode cL_law 980 = .ok (.iaload, 1) := by decide +kernel
theorem dL_law_981 : decode cL_law 981 = .ok (.aload_n 0, 1) := by decide +kernel
theorem dL_law_982 : decode cL_law 982 = .ok (.iload_n 3, 1) := by decide +kernel
theorem dL_law_983 : decode cL_law 983 = .ok (.iconst 3, 1) := by decide +kernel
theorem dL_law_984 : decode cL_law 984 = .ok (.iadd, 1) := by decide +kernel
theorem dL_law_985 : decode cL_law 985 = .ok (.iaload, 1) := by decide +kernel
theorem dL_law_986 : decode cL_law 986 = .ok (.aload_n 0, 1) := by decide +kernel
theorem dL_law_987 : decode cL_law 987 = .ok (.iload_n 3, 1) := by decide +kernel
theorem dL_law_988 : decode cL_law 988 = .ok (.iconst 4, 1) := by decide +kernel
theorem dL_law_989 : decode cL_law 989 = .ok (.iadd, 1) := by decide +kernel
theorem dL_law_990 : decode cL_law 990 = .ok (.iaload, 1) := by decide +kernel
theorem dL_law_991 : decode cL_law 991 = .ok (.aload_n 0, 1) := by decide +kernel
theorem dL_law_992 : decode cL_law 992 = .ok (.iload_n 3, 1) := by decide +kernel
theorem dL_law_993 : decode cL_law 993 = .ok (.iconst 5, 1) := by decide +kernel
theorem dL_law_994 : decode cL_law 994 = .ok (.iadd, 1) := by decide +kernel
theorem dL_law_995 : decode cL_law 995 = .ok (.iaload, 1) := by decide +kernel
theorem dL_law_996 : decode cL_law 996 = .ok (.invokevirtual 115, 3) := by decide +kernel
theorem dL_law_999 : decode cL_law 999 = .ok (.aload_n 2, 1) := by decide +kernel
theorem dL_law_1000 : decode cL_law 1000 = .ok (.aload_n 0, 1) := by decide +kernel
theorem dL_law_1001 : decode cL_law 1001 = .ok (.iload_n 3, 1) := by decide +kernel
theorem dL_law_1002 : decode cL_law 1002 = .ok (.iconst 1, 1) := by decide +kernel
theorem dL_law_1003 : decode cL_law 1003 = .ok (.iadd, 1) := by decide +kernel
theorem dL_law_1004 : decode cL_law 1004 = .ok (.iaload, 1) := by decide +kernel
theorem dL_law_1005 : decode cL_law 1005 = .ok (.aload_n 0, 1) := by decide +kernel
theorem dL_law_1006 : decode cL_law 1006 = .ok (.iload_n 3, 1) := by decide +kernel
theorem dL_law_1007 : decode cL_law 1007 = .ok (.iconst 2, 1) := by decide +kernel
theorem dL_law_1008 : decode cL_law 1008 = .ok (.iadd, 1) := by decide +kernel
theorem dL_law_1009 : decode cL_law 1009 = .ok (.iaload, 1) := by decide +kernel
theorem dL_law_1010 : decode cL_law 1010 = .ok (.aload_n 0, 1) := by decide +kernel
theorem dL_law_1011 : decode cL_law 1011 = .ok (.iload_n 3, 1) := by decide +kernel
theorem dL_law_1012 : decode cL_law 1012 = .ok (.iconst 3, 1) := by decide +kernel
theorem dL_law_1013 : decode cL_law 1013 = .ok (.iadd, 1) := by decide +kernel
theorem dL_law_1014 : decode cL_law 1014 = .ok (.iaload, 1) := by decide +kernel
theorem dL_law_1015 : decode cL_law 1015 = .ok (.aload_n 0, 1) := by decide +kernel
theorem dL_law_1016 : decode cL_law 1016 = .ok (.iload_n 3, 1) := by decide +kernel
theorem dL_law_1017 : decode cL_law 1017 = .ok (.iconst 4, 1) := by decide +kernel
theorem dL_law_1018 : decode cL_law 1018 = .ok (.iadd, 1) := by decide +kernel
theorem dL_law_1019 : decode cL_law 1019 = .ok (.iaload, 1) := by decide +kernel
theorem dL_law_1020 : decode cL_law 1020 = .ok (.aload_n 0, 1) := by decide +kernel
theorem dL_law_1021 : decode cL_law 1021 = .ok (.iload_n 3, 1) := by decide +kernel
theorem dL_law_1022 : decode cL_law 1022 = .ok (.iconst 5, 1) := by decide +kernel
theorem dL_law_1023 : decode cL_law 1023 = .ok (.iadd, 1) := by decide +kernel
theorem dL_law_1024 : decode cL_law 1024 = .ok (.iaload, 1) := by decide +kernel
theorem dL_law_1025 : decode cL_law 1025 = .ok (.invokevirtual 118, 3) := by decide +kernel
theorem dL_law_1028 : decode cL_law 1028 = .ok (.if_icmp .eq 905, 3) := by decide +kernel
theorem lawc_24 {X : xCX} {b L : Nat} {xs : Nat → Int32} {i : Int32} {M : xMem} (C : xCk X cL_law RL 16) (hS : xSc X b L xs) (h5 : ∀ j, j < 6 → vp_in (i + nI j) L) (hT : TOP M) (kk : ∀ M', TOP M' → WW X 1933 [some (.ref b), some (vr X.1 0), some (vr X.1 146), some (.int i)] [] M') : WW X 970 [some (.ref b), some (vr X.1 0), some (vr X.1 146), some (.int i)] [] M := by
  obtain ⟨v, M1, M2, f1, f2, T2⟩ := (show STEP (fX10_would 0 (xs (i + nI 1).toNatClampNeg) (xs (i + nI 2).toNatClampNeg) (xs (i + nI 3).toNatClampNeg) (xs (i + nI 4).toNatClampNeg) (xs (i + nI 5).toNatClampNeg)) (fX11_would 146 (xs (i + nI 1).toNatClampNeg) (xs (i + nI 2).toNatClampNeg) (xs (i + nI 3).toNatClampNeg) (xs (i + nI 4).toNatClampNeg) (xs (i + nI 5).toNatClampNeg)) from s_would) M hT
  refine r_aload_n (pc := 970) C dL_law_970 rfl rfl ?_
  refine r_xld_n (pc := 971) C dL_law_971 rfl rfl rfl ?_
  refine r_iload_n (pc := 972) C dL_law_972 rfl rfl ?_
  refine r_iconst (pc := 973) (v := nI 1) C dL_law_973 (by decide) ?_
  refine r_iadd (pc := 974) C dL_law_974 ?_
  refine r_scld (pc := 975) C hS (h5 1 (by decide)) dL_law_975 ?_
  refine r_xld_n (pc := 976) C dL_law_976 rfl rfl rfl ?_
  refine r_iload_n (pc := 977) C dL_law_977 rfl rfl ?_
  refine r_iconst (pc := 978) (v := nI 2) C dL_law_978 (by decide) ?_
  refine r_iadd (pc := 979) C dL_law_979 ?_
  refine r_scld (pc := 980) C hS (h5 2 (by decide)) dL_law_980 ?_
  refine r_xld_n (pc := 981) C dL_law_981 rfl rfl rfl ?_
  refine r_iload_n (pc := 982) C dL_law_982 rfl rfl ?_
  refine r_iconst (pc := 983) (v := nI 3) C dL_law_983 (by decide) ?_
  refine r_iadd (pc := 984) C dL_law_984 ?_
  refine r_scld (pc := 985) C hS (h5 3 (by decide)) dL_law_985 ?_
  refine r_xld_n (pc := 986) C dL_law_986 rfl rfl rfl ?_
  refine r_iload_n (pc := 987) C dL_law_987 rfl rfl ?_
  refine r_iconst (pc := 988) (v := nI 4) C dL_law_988 (by decide) ?_
  refine r_iadd (pc := 989) C dL_law_989 ?_
  refine r_scld (pc := 990) C hS (h5 4 (by decide)) dL_law_990 ?_
  refine r_xld_n (pc := 991) C dL_law_991 rfl rfl rfl ?_
  refine r_iload_n (pc := 992) C dL_law_992 rfl rfl ?_
  refine r_iconst (pc := 993) (v := nI 5) C dL_law_993 (by decide) ?_
  refine r_iadd (pc := 994) C dL_law_994 ?_
  refine r_scld (pc := 995) C hS (h5 5 (by decide)) dL_law_995 ?_
  refine r_vI5 (pc := 996) (o := fX10_would 0 (xs (i + nI 1).toNatClampNeg) (xs (i + nI 2).toNatClampNeg) (xs (i + nI 3).toNatClampNeg) (xs (i + nI 4).toNatClampNeg) (xs (i + nI 5).toNatClampNeg) M) (F := fun r M' => some (r, M')) (z := (v, M1)) C (fun r M' e => zX10_would X.1 0 rfl (xs (i + nI 1).toNatClampNeg) (xs (i + nI 2).toNatClampNeg) (xs (i + nI 3).toNatClampNeg) (xs (i + nI 4).toNatClampNeg) (xs (i + nI 5).toNatClampNeg) M r M' e) rfl (by decide) rfl mX10_would lL_115 (by decide) (Nat.le_of_ble_eq_true rfl) dL_law_996 (by rw [f1]; rfl) (fun r M' e => ?_)
  cases e
  refine r_aload_n (pc := 999) C dL_law_999 rfl rfl ?_
  refine r_xld_n (pc := 1000) C dL_law_1000 rfl rfl rfl ?_
  refine r_iload_n (pc := 1001) C dL_law_1001 rfl rfl ?_
  refine r_iconst (pc := 1002) (v := nI 1) C dL_law_1002 (by decide) ?_
  refine r_iadd (pc := 1003) C dL_law_1003 ?_
  refine r_scld (pc := 1004) C hS (h5 1 (by decide)) dL_law_1004 ?_
  refine r_xld_n (pc := 1005) C dL_law_1005 rfl rfl rfl ?_
  refine r_iload_n (pc := 1006) C dL_law_1006 rfl rfl ?_
  refine r_iconst (pc := 1007) (v := nI 2) C dL_law_1007 (by decide) ?_
  refine r_iadd (pc := 1008) C dL_law_1008 ?_
  refine r_scld (pc := 1009) C hS (h5 2 (by decide)) dL_law_1009 ?_
  refine r_xld_n (pc := 1010) C dL_law_1010 rfl rfl rfl ?_
  refine r_iload_n (pc := 1011) C dL_law_1011 rfl rfl ?_
  refine r_iconst (pc := 1012) (v := nI 3) C dL_law_1012 (by decide) ?_
  refine r_iadd (pc := 1013) C dL_law_1013 ?_
  refine r_scld (pc := 1014) C hS (h5 3 (by decide)) dL_law_1014 ?_
  refine r_xld_n (pc := 1015) C dL_law_1015 rfl rfl rfl ?_
  refine r_iload_n (pc := 1016) C dL_law_1016 rfl rfl ?_
  refine r_iconst (pc := 1017) (v := nI 4) C dL_law_1017 (by decide) ?_
  refine r_iadd (pc := 1018) C dL_law_1018 ?_
  refine r_scld (pc := 1019) C hS (h5 4 (by decide)) dL_law_1019 ?_
  refine r_xld_n (pc := 1020) C dL_law_1020 rfl rfl rfl ?_
  refine r_iload_n (pc := 1021) C dL_law_1021 rfl rfl ?_
  refine r_iconst (pc := 1022) (v := nI 5) C dL_law_1022 (by decide) ?_
  refine r_iadd (pc := 1023) C dL_law_1023 ?_
  refine r_scld (pc := 1024) C hS (h5 5 (by decide)) dL_law_1024 ?_
  refine r_vI5 (pc := 1025) (o := fX11_would 146 (xs (i + nI 1).toNatClampNeg) (xs (i + nI 2).toNatClampNeg) (xs (i + nI 3).toNatClampNeg) (xs (i + nI 4).toNatClampNeg) (xs (i + nI 5).toNatClampNeg) M1) (F := fun r M' => some (r, M')) (z := (v, M2)) C (fun r M' e => zX11_would X.1 146 rfl (xs (i + nI 1).toNatClampNeg) (xs (i + nI 2).toNatClampNeg) (xs (i + nI 3).toNatClampNeg) (xs (i + nI 4).toNatClampNeg) (xs (i + nI 5).toNatClampNeg) M1 r M' e) rfl (by decide) rfl mX11_would lL_118 (by decide) (Nat.le_of_ble_eq_true rfl) dL_law_1025 (by rw [f2]; rfl) (fun r M' e => ?_)
  cases e
  exact r_icmp_eq (pc := 1028) (tgt := 1933) (A := some ()) (B := none) (r := ()) C dL_law_1028 (by decide) (if_pos rfl) (fun _ _ => kk M2 T2) (fun _ h => absurd h (by simp))
theorem dL_law_1033 : decode cL_law 1033 = .ok (.aload_n 1, 1) := by decide +kernel
theorem dL_law_1034 : decode cL_law 1034 = .ok (.invokevirtual 119, 3) := by decide +kernel
theorem dL_law_1037 : decode cL_law 1037 = .ok (.aload_n 2, 1) := by decide +kernel
theorem dL_law_1038 : decode cL_law 1038 = .ok (.invokevirtual 122, 3) := by decide +kernel
theorem dL_law_1041 : decode cL_law 1041 = .ok (.if_icmp .eq 892, 3) := by decide +kernel
theorem lawc_25 {X : xCX} {b L : Nat} {xs : Nat → Int32} {i : Int32} {M : xMem} (C : xCk X cL_law RL 16) (hS : xSc X b L xs) (h5 : ∀ j, j < 6 → vp_in (i + nI j) L) (hT : TOP M) (kk : ∀ M', TOP M' → WW X 1933 [some (.ref b), some (vr X.1 0), some (vr X.1 146), some (.int i)] [] M') : WW X 1033 [some (.ref b), some (vr X.1 0), some (vr X.1 146), some (.int i)] [] M := by
  obtain ⟨v, M1, M2, f1, f2, T2⟩ := (show STEP (fX10_most 0 ) (fX11_most 146 ) from s_most) M hT
  refine r_aload_n (pc := 1033) C dL_law_1033 rfl rfl ?_
  refine r_vI0 (pc := 1034) (o := fX10_most 0  M) (F := fun r M' => some (r, M')) (z := (v, M1)) C (fun r M' e => zX10_most X.1 0 rfl  M r M' e) rfl (by decide) rfl mX10_most lL_119 (by decide) (Nat.le_of_ble_eq_true rfl) dL_law_1034 (by rw [f1]; rfl) (fun r M' e => ?_)
  cases e
  refine r_aload_n (pc := 1037) C dL_law_1037 rfl rfl ?_
  refine r_vI0 (pc := 1038) (o := fX11_most 146  M1) (F := fun r M' => some (r, M')) (z := (v, M2)) C (fun r M' e => zX11_most X.1 146 rfl  M1 r M' e) rfl (by decide) rfl mX11_most lL_122 (by decide) (Nat.le_of_ble_eq_true rfl) dL_law_1038 (by rw [f2]; rfl) (fun r M' e => ?_)
  cases e
  exact r_icmp_eq (pc := 1041) (tgt := 1933) (A := some ()) (B := none) (r := ()) C dL_law_1041 (by decide) (if_pos rfl) (fun _ _ => kk M2 T2) (fun _ h => absurd h (by simp))
theorem dL_law_1046 : decode cL_law 1046 = .ok (.aload_n 1, 1) := by decide +kernel
theorem dL_law_1047 : decode cL_law 1047 = .ok (.aload_n 0, 1) := by decide +kernel
theorem dL_law_1048 : decode cL_law 1048 = .ok (.iload_n 3, 1) := by decide +kernel
theorem dL_law_1049 : decode cL_law 1049 = .ok (.iconst 1, 1) := by decide +kernel
theorem dL_law_1050 : decode cL_law 1050 = .ok (.iadd, 1) := by decide +kernel
theorem dL_law_1051 : decode cL_law 1051 = .ok (.iaload, 1) := by decide +kernel
theorem dL_law_1052 : decode cL_law 1052 = .ok (.invokevirtual 123, 3) := by decide +kernel
theorem dL_law_1055 : decode cL_law 1055 = .ok (.aload_n 2, 1) := by decide +kernel
theorem dL_law_1056 : decode cL_law 1056 = .ok (.aload_n 0, 1) := by decide +kernel
theorem dL_law_1057 : decode cL_law 1057 = .ok (.iload_n 3, 1) := by decide +kernel
theorem dL_law_1058 : decode cL_law 1058 = .ok (.iconst 1, 1) := by decide +kernel
theorem dL_law_1059 : decode cL_law 1059 = .ok (.iadd, 1) := by decide +kernel
theorem dL_law_1060 : decode cL_law 1060 = .ok (.iaload, 1) := by decide +kernel
theorem dL_law_1061 : decode cL_law 1061 = .ok (.invokevirtual 126, 3) := by decide +kernel
theorem dL_law_1064 : decode cL_law 1064 = .ok (.if_icmp .eq 869, 3) := by decide +kernel
theorem lawc_26 {X : xCX} {b L : Nat} {xs : Nat → Int32} {i : Int32} {M : xMem} (C : xCk X cL_law RL 16) (hS : xSc X b L xs) (h5 : ∀ j, j < 6 → vp_in (i + nI j) L) (hT : TOP M) (kk : ∀ M', TOP M' → WW X 1933 [some (.ref b), some (vr X.1 0), some (vr X.1 146), some (.int i)] [] M') : WW X 1046 [some (.ref b), some (vr X.1 0), some (vr X.1 146), some (.int i)] [] M := by
  obtain ⟨v, M1, M2, f1, f2, T2⟩ := (show STEP (fX10_needs 0 (xs (i + nI 1).toNatClampNeg)) (fX11_needs 146 (xs (i + nI 1).toNatClampNeg)) from s_needs) M hT
  refine r_aload_n (pc := 1046) C dL_law_1046 rfl rfl ?_
  refine r_xld_n (pc := 1047) C dL_law_1047 rfl rfl rfl ?_
  refine r_iload_n (pc := 1048) C dL_law_1048 rfl rfl ?_
  refine r_iconst (pc := 1049) (v := nI 1) C dL_law_1049 (by decide) ?_
  refine r_iadd (pc := 1050) C dL_law_1050 ?_
  refine r_scld (pc := 1051) C hS (h5 1 (by decide)) dL_law_1051 ?_
  refine r_vI1 (pc := 1052) (o := fX10_needs 0 (xs (i + nI 1).toNatClampNeg) M) (F := fun r M' => some (r, M')) (z := (v, M1)) C (fun r M' e => zX10_needs X.1 0 rfl (xs (i + nI 1).toNatClampNeg) M r M' e) rfl (by decide) rfl mX10_needs lL_123 (by decide) (Nat.le_of_ble_eq_true rfl) dL_law_1052 (by rw [f1]; rfl) (fun r M' e => ?_)
  cases e
  refine r_aload_n (pc := 1055) C dL_law_1055 rfl rfl ?_
  refine r_xld_n (pc := 1056) C dL_law_1056 rfl rfl rfl ?_
  refine r_iload_n (pc := 1057) C dL_law_1057 rfl rfl ?_
  refine r_iconst (pc := 1058) (v := nI 1) C dL_law_1058 (by decide) ?_
  refine r_iadd (pc := 1059) C dL_law_1059 ?_
  refine r_scld (pc := 1060) C hS (h5 1 (by decide)) dL_law_1060 ?_
  refine r_vI1 (pc := 1061) (o := fX11_needs 146 (xs (i + nI 1).toNatClampNeg) M1) (F := fun r M' => some (r, M')) (z := (v, M2)) C (fun r M' e => zX11_needs X.1 146 rfl (xs (i + nI 1).toNatClampNeg) M1 r M' e) rfl (by decide) rfl mX11_needs lL_126 (by decide) (Nat.le_of_ble_eq_true rfl) dL_law_1061 (by rw [f2]; rfl) (fun r M' e => ?_)
  cases e
  exact r_icmp_eq (pc := 1064) (tgt := 1933) (A := some ()) (B := none) (r := ()) C dL_law_1064 (by decide) (if_pos rfl) (fun _ _ => kk M2 T2) (fun _ h => absurd h (by simp))
theorem dL_law_1069 : decode cL_law 1069 = .ok (.aload_n 1, 1) := by decide +kernel
theorem dL_law_1070 : decode cL_law 1070 = .ok (.aload_n 0, 1) := by decide +kernel
theorem dL_law_1071 : decode cL_law 1071 = .ok (.iload_n 3, 1) := by decide +kernel
theorem dL_law_1072 : decode cL_law 1072 = .ok (.iconst 1, 1) := by decide +kernel
theorem dL_law_1073 : decode cL_law 1073 = .ok (.iadd, 1) := by decide +kernel
theorem dL_law_1074 : decode cL_law 1074 = .ok (.iaload, 1) := by decide +kernel
theorem dL_law_1075 : decode cL_law 1075 = .ok (.aload_n 0, 1) := by decide +kernel
theorem dL_law_1076 : decode cL_law 1076 = .ok (.iload_n 3, 1) := by decide +kernel
theorem dL_law_1077 : decode cL_law 1077 = .ok (.iconst 2, 1) := by decide +kernel
theorem dL_law_1078 : decode cL_law 1078 = .ok (.iadd, 1) := by decide +kernel
theorem dL_law_1079 : decode cL_law 1079 = .ok (.iaload, 1) := by decide +kernel
theorem dL_law_1080 : decode cL_law 1080 = .ok (.aload_n 0, 1) := by decide +kernel
theorem dL_law_1081 : decode cL_law 1081 = .ok (.iload_n 3, 1) := by decide +kernel
theorem dL_law_1082 : decode cL_law 1082 = .ok (.iconst 3, 1) := by decide +kernel
theorem dL_law_1083 : decode cL_law 1083 = .ok (.iadd, 1) := by decide +kernel
theorem dL_law_1084 : decode cL_law 1084 = .ok (.iaload, 1) := by decide +kernel
theorem dL_law_1085 : decode cL_law 1085 = .ok (.aload_n 0, 1) := by decide +kernel
theorem dL_law_1086 : decode cL_law 1086 = .ok (.iload_n 3, 1) := by decide +kernel
theorem dL_law_1087 : decode cL_law 1087 = .ok (.iconst 4, 1) := by decide +kernel
theorem dL_law_1088 : decode cL_law 1088 = .ok (.iadd, 1) := by decide +kernel
theorem dL_law_1089 : decode cL_law 1089 = .ok (.iaload, 1) := by decide +kernel
theorem dL_law_1090 : decode cL_law 1090 = .ok (.invokevirtual 127, 3) := by decide +kernel
theorem dL_law_1093 : decode cL_law 1093 = .ok (.aload_n 2, 1) := by decide +kernel
theorem dL_law_1094 : decode cL_law 1094 = .ok (.aload_n 0, 1) := by decide +kernel
theorem dL_law_1095 : decode cL_law 1095 = .ok (.iload_n 3, 1) := by decide +kernel
theorem dL_law_1096 : decode cL_law 1096 = .ok (.iconst 1, 1) := by decide +kernel
theorem dL_law_1097 : decode cL_law 1097 = .ok (.iadd, 1) := by decide +kernel
theorem dL_law_1098 : decode cL_law 1098 = .ok (.iaload, 1) := by decide +kernel
theorem dL_law_1099 : decode cL_law 1099 = .ok (.aload_n 0, 1) := by decide +kernel
theorem dL_law_1100 : decode cL_law 1100 = .ok (.iload_n 3, 1) := by decide +kernel
theorem dL_law_1101 : decode cL_law 1101 = .ok (.iconst 2, 1) := by decide +kernel
theorem dL_law_1102 : decode cL_law 1102 = .ok (.iadd, 1) := by decide +kernel
theorem dL_law_1103 : decode cL_law 1103 = .ok (.iaload, 1) := by decide +kernel
theorem dL_law_1104 : decode cL_law 1104 = .ok (.aload_n 0, 1) := by decide +kernel
theorem dL_law_1105 : decode cL_law 1105 = .ok (.iload_n 3, 1) := by decide +kernel
theorem dL_law_1106 : decode cL_law 1106 = .ok (.iconst 3, 1) := by decide +kernel
theorem dL_law_1107 : decode cL_law 1107 = .ok (.iadd, 1) := by decide +kernel
theorem dL_law_1108 : decode cL_law 1108 = .ok (.iaload, 1) := by decide +kernel
theorem dL_law_1109 : decode cL_law 1109 = .ok (.aload_n 0, 1) := by decide +kernel
theorem dL_law_1110 : decode cL_law 1110 = .ok (.iload_n 3, 1) := by decide +kernel
theorem dL_law_1111 : decode cL_law 1111 = .ok (.iconst 4, 1) := by decide +kernel
theorem dL_law_1112 : decode cL_law 1112 = .ok (.iadd, 1) := by decide +kernel
theorem dL_law_1113 : decode cL_law 1113 = .ok (.iaload, 1) := by decide +kernel
theorem dL_law_1114 : decode cL_law 1114 = .ok (.invokevirtual 130, 3) := by decide +kernel
theorem dL_law_1117 : decode cL_law 1117 = .ok (.if_icmp .eq 816, 3) := by decide +kernel
theorem lawc_27 {X : xCX} {b L : Nat} {xs : Nat → Int32} {i : Int32} {M : xMem} (C : xCk X cL_law RL 16) (hS : xSc X b L xs) (h5 : ∀ j, j < 6 → vp_in (i + nI j) L) (hT : TOP M) (kk : ∀ M', TOP M' → WW X 1933 [some (.ref b), some (vr X.1 0), some (vr X.1 146), some (.int i)] [] M') : WW X 1069 [some (.ref b), some (vr X.1 0), some (vr X.1 146), some (.int i)] [] M := by
  obtain ⟨v, M1, M2, f1, f2, T2⟩ := (show STEP (fX10_met 0 (xs (i + nI 1).toNatClampNeg) (xs (i + nI 2).toNatClampNeg) (xs (i + nI 3).toNatClampNeg) (xs (i + nI 4).toNatClampNeg)) (fX11_met 146 (xs (i + nI 1).toNatClampNeg) (xs (i + nI 2).toNatClampNeg) (xs (i + nI 3).toNatClampNeg) (xs (i + nI 4).toNatClampNeg)) from s_met) M hT
  refine r_aload_n (pc := 1069) C dL_law_1069 rfl rfl ?_
  refine r_xld_n (pc := 1070) C dL_law_1070 rfl rfl rfl ?_
  refine r_iload_n (pc := 1071) C dL_law_1071 rfl rfl ?_
  refine r_iconst (pc := 1072) (v := nI 1) C dL_law_1072 (by decide) ?_
  refine r_iadd (pc := 1073) C dL_law_1073 ?_
  refine r_scld (pc := 1074) C hS (h5 1 (by decide)) dL_law_1074 ?_
  refine r_xld_n (pc := 1075) C dL_law_1075 rfl rfl rfl ?_
  refine r_iload_n (pc := 1076) C dL_law_1076 rfl rfl ?_
  refine r_iconst (pc := 1077) (v := nI 2) C dL_law_1077 (by decide) ?_
  refine r_iadd (pc := 1078) C dL_law_1078 ?_
  refine r_scld (pc := 1079) C hS (h5 2 (by decide)) dL_law_1079 ?_
  refine r_xld_n (pc := 1080) C dL_law_1080 rfl rfl rfl ?_
  refine r_iload_n (pc := 1081) C dL_law_1081 rfl rfl ?_
  refine r_iconst (pc := 1082) (v := nI 3) C dL_law_1082 (by decide) ?_
  refine r_iadd (pc := 1083) C dL_law_1083 ?_
  refine r_scld (pc := 1084) C hS (h5 3 (by decide)) dL_law_1084 ?_
  refine r_xld_n (pc := 1085) C dL_law_1085 rfl rfl rfl ?_
  refine r_iload_n (pc := 1086) C dL_law_1086 rfl rfl ?_
  refine r_iconst (pc := 1087) (v := nI 4) C dL_law_1087 (by decide) ?_
  refine r_iadd (pc := 1088) C dL_law_1088 ?_
  refine r_scld (pc := 1089) C hS (h5 4 (by decide)) dL_law_1089 ?_
  refine r_vI4 (pc := 1090) (o := fX10_met 0 (xs (i + nI 1).toNatClampNeg) (xs (i + nI 2).toNatClampNeg) (xs (i + nI 3).toNatClampNeg) (xs (i + nI 4).toNatClampNeg) M) (F := fun r M' => some (r, M')) (z := (v, M1)) C (fun r M' e => zX10_met X.1 0 rfl (xs (i + nI 1).toNatClampNeg) (xs (i + nI 2).toNatClampNeg) (xs (i + nI 3).toNatClampNeg) (xs (i + nI 4).toNatClampNeg) M r M' e) rfl (by decide) rfl mX10_met lL_127 (by decide) (Nat.le_of_ble_eq_true rfl) dL_law_1090 (by rw [f1]; rfl) (fun r M' e => ?_)
  cases e
  refine r_aload_n (pc := 1093) C dL_law_1093 rfl rfl ?_
  refine r_xld_n (pc := 1094) C dL_law_1094 rfl rfl rfl ?_
  refine r_iload_n (pc := 1095) C dL_law_1095 rfl rfl ?_
  refine r_iconst (pc := 1096) (v := nI 1) C dL_law_1096 (by decide) ?_
  refine r_iadd (pc := 1097) C dL_law_1097 ?_
  refine r_scld (pc := 1098) C hS (h5 1 (by decide)) dL_law_1098 ?_
  refine r_xld_n (pc := 1099) C dL_law_1099 rfl rfl rfl ?_
  refine r_iload_n (pc := 1100) C dL_law_1100 rfl rfl ?_
  refine r_iconst (pc := 1101) (v := nI 2) C dL_law_1101 (by decide) ?_
  refine r_iadd (pc := 1102) C dL_law_1102 ?_
  refine r_scld (pc := 1103) C hS (h5 2 (by decide)) dL_law_1103 ?_
  refine r_xld_n (pc := 1104) C dL_law_1104 rfl rfl rfl ?_
  refine r_iload_n (pc := 1105) C dL_law_1105 rfl rfl ?_
  refine r_iconst (pc := 1106) (v := nI 3) C dL_law_1106 (by decide) ?_
  refine r_iadd (pc := 1107) C dL_law_1107 ?_
  refine r_scld (pc := 1108) C hS (h5 3 (by decide)) dL_law_1108 ?_
  refine r_xld_n (pc := 1109) C dL_law_1109 rfl rfl rfl ?_
  refine r_iload_n (pc := 1110) C dL_law_1110 rfl rfl ?_
  refine r_iconst (pc := 1111) (v := nI 4) C dL_law_1111 (by decide) ?_
  refine r_iadd (pc := 1112) C dL_law_1112 ?_
  refine r_scld (pc := 1113) C hS (h5 4 (by decide)) dL_law_1113 ?_
  refine r_vI4 (pc := 1114) (o := fX11_met 146 (xs (i + nI 1).toNatClampNeg) (xs (i + nI 2).toNatClampNeg) (xs (i + nI 3).toNatClampNeg) (xs (i + nI 4).toNatClampNeg) M1) (F := fun r M' => some (r, M')) (z := (v, M2)) C (fun r M' e => zX11_met X.1 146 rfl (xs (i + nI 1).toNatClampNeg) (xs (i + nI 2).toNatClampNeg) (xs (i + nI 3).toNatClampNeg) (xs (i + nI 4).toNatClampNeg) M1 r M' e) rfl (by decide) rfl mX11_met lL_130 (by decide) (Nat.le_of_ble_eq_true rfl) dL_law_1114 (by rw [f2]; rfl) (fun r M' e => ?_)
  cases e
  exact r_icmp_eq (pc := 1117) (tgt := 1933) (A := some ()) (B := none) (r := ()) C dL_law_1117 (by decide) (if_pos rfl) (fun _ _ => kk M2 T2) (fun _ h => absurd h (by simp))
theorem dL_law_1122 : decode cL_law 1122 = .ok (.aload_n 1, 1) := by decide +kernel
theorem dL_law_1123 : decode cL_law 1123 = .ok (.aload_n 0, 1) := by decide +kernel
theorem dL_law_1124 : decode cL_law 1124 = .ok (.iload_n 3, 1) := by decide +kernel
theorem dL_law_1125 : decode cL_law 1125 = .ok (.iconst 1, 1) := by decide +kernel
theorem dL_law_1126 : decode cL_law 1126 = .ok (.iadd, 1) := by decide +kernel
theorem dL_law_1127 : decode cL_law 1127 = .ok (.iaload, 1) := by decide +kernel
theorem dL_law_1128 : decode cL_law 1128 = .ok (.aload_n 0, 1) := by decide +kernel
theorem dL_law_1129 : decode cL_law 1129 = .ok (.iload_n 3, 1) := by decide +kernel
theorem dL_law_1130 : decode cL_law 1130 = .ok (.iconst 2, 1) := by decide +kernel
theorem dL_law_1131 : decode cL_law 1131 = .ok (.iadd, 1) := by decide +kernel
theorem dL_law_1132 : decode cL_law 1132 = .ok (.iaload, 1) := by decide +kernel
theorem dL_law_1133 : decode cL_law 1133 = .ok (.invokevirtual 131, 3) := by decide +kernel
theorem dL_law_1136 : decode cL_law 1136 = .ok (.aload_n 2, 1) := by decide +kernel
theorem dL_law_1137 : decode cL_law 1137 = .ok (.aload_n 0, 1) := by decide +kernel
theorem dL_law_1138 : decode cL_law 1138 = .ok (.iload_n 3, 1) := by decide +kernel
theorem dL_law_1139 : decode cL_law 1139 = .ok (.iconst 1, 1) := by decide +kernel
theorem dL_law_1140 : decode cL_law 1140 = .ok (.iadd, 1) := by decide +kernel
theorem dL_law_1141 : decode cL_law 1141 = .ok (.iaload, 1) := by decide +kernel
theorem dL_law_1142 : decode cL_law 1142 = .ok (.aload_n 0, 1) := by decide +kernel
theorem dL_law_1143 : decode cL_law 1143 = .ok (.iload_n 3, 1) := by decide +kernel
theorem dL_law_1144 : decode cL_law 1144 = .ok (.iconst 2, 1) := by decide +kernel
theorem dL_law_1145 : decode cL_law 1145 = .ok (.iadd, 1) := by decide +kernel
theorem dL_law_1146 : decode cL_law 1146 = .ok (.iaload, 1) := by decide +kernel
theorem dL_law_1147 : decode cL_law 1147 = .ok (.invokevirtual 134, 3) := by decide +kernel
theorem dL_law_1150 : decode cL_law 1150 = .ok (.if_icmp .eq 783, 3) := by decide +kernel
theorem lawc_28 {X : xCX} {b L : Nat} {xs : Nat → Int32} {i : Int32} {M : xMem} (C : xCk X cL_law RL 16) (hS : xSc X b L xs) (h5 : ∀ j, j < 6 → vp_in (i + nI j) L) (hT : TOP M) (kk : ∀ M', TOP M' → WW X 1933 [some (.ref b), some (vr X.1 0), some (vr X.1 146), some (.int i)] [] M') : WW X 1122 [some (.ref b), some (vr X.1 0), some (vr X.1 146), some (.int i)] [] M := by
  obtain ⟨v, M1, M2, f1, f2, T2⟩ := (show STEP (fX10_lasted 0 (xs (i + nI 1).toNatClampNeg) (xs (i + nI 2).toNatClampNeg)) (fX11_lasted 146 (xs (i + nI 1).toNatClampNeg) (xs (i + nI 2).toNatClampNeg)) from s_lasted) M hT
  refine r_aload_n (pc := 1122) C dL_law_1122 rfl rfl ?_
  refine r_xld_n (pc := 1123) C dL_law_1123 rfl rfl rfl ?_
  refine r_iload_n (pc := 1124) C dL_law_1124 rfl rfl ?_
  refine r_iconst (pc := 1125) (v := nI 1) C dL_law_1125 (by decide) ?_
  refine r_iadd (pc := 1126) C dL_law_1126 ?_
  refine r_scld (pc := 1127) C hS (h5 1 (by decide)) dL_law_1127 ?_
  refine r_xld_n (pc := 1128) C dL_law_1128 rfl rfl rfl ?_
  refine r_iload_n (pc := 1129) C dL_law_1129 rfl rfl ?_
  refine r_iconst (pc := 1130) (v := nI 2) C dL_law_1130 (by decide) ?_
  refine r_iadd (pc := 1131) C dL_law_1131 ?_
  refine r_scld (pc := 1132) C hS (h5 2 (by decide)) dL_law_1132 ?_
  refine r_vI2 (pc := 1133) (o := fX10_lasted 0 (xs (i + nI 1).toNatClampNeg) (xs (i + nI 2).toNatClampNeg) M) (F := fun r M' => some (r, M')) (z := (v, M1)) C (fun r M' e => zX10_lasted X.1 0 rfl (xs (i + nI 1).toNatClampNeg) (xs (i + nI 2).toNatClampNeg) M r M' e) rfl (by decide) rfl mX10_lasted lL_131 (by decide) (Nat.le_of_ble_eq_true rfl) dL_law_1133 (by rw [f1]; rfl) (fun r M' e => ?_)
  cases e
  refine r_aload_n (pc := 1136) C dL_law_1136 rfl rfl ?_
  refine r_xld_n (pc := 1137) C dL_law_1137 rfl rfl rfl ?_
  refine r_iload_n (pc := 1138) C dL_law_1138 rfl rfl ?_
  refine r_iconst (pc := 1139) (v := nI 1) C dL_law_1139 (by decide) ?_
  refine r_iadd (pc := 1140) C dL_law_1140 ?_
  refine r_scld (pc := 1141) C hS (h5 1 (by decide)) dL_law_1141 ?_
  refine r_xld_n (pc := 1142) C dL_law_1142 rfl rfl rfl ?_
  refine r_iload_n (pc := 1143) C dL_law_1143 rfl rfl ?_
  refine r_iconst (pc := 1144) (v := nI 2) C dL_law_1144 (by decide) ?_
  refine r_iadd (pc := 1145) C dL_law_1145 ?_
  refine r_scld (pc := 1146) C hS (h5 2 (by decide)) dL_law_1146 ?_
  refine r_vI2 (pc := 1147) (o := fX11_lasted 146 (xs (i + nI 1).toNatClampNeg) (xs (i + nI 2).toNatClampNeg) M1) (F := fun r M' => some (r, M')) (z := (v, M2)) C (fun r M' e => zX11_lasted X.1 146 rfl (xs (i + nI 1).toNatClampNeg) (xs (i + nI 2).toNatClampNeg) M1 r M' e) rfl (by decide) rfl mX11_lasted lL_134 (by decide) (Nat.le_of_ble_eq_true rfl) dL_law_1147 (by rw [f2]; rfl) (fun r M' e => ?_)
  cases e
  exact r_icmp_eq (pc := 1150) (tgt := 1933) (A := some ()) (B := none) (r := ()) C dL_law_1150 (by decide) (if_pos rfl) (fun _ _ => kk M2 T2) (fun _ h => absurd h (by simp))
theorem dL_law_1155 : decode cL_law 1155 = .ok (.aload_n 1, 1) := by decide +kernel
theorem dL_law_1156 : decode cL_law 1156 = .ok (.aload_n 0, 1) := by decide +kernel
theorem dL_law_1157 : decode cL_law 1157 = .ok (.iload_n 3, 1) := by decide +kernel
theorem dL_law_1158 : decode cL_law 1158 = .ok (.iconst 1, 1) := by decide +kernel
theorem dL_law_1159 : decode cL_law 1159 = .ok (.iadd, 1) := by decide +kernel
theorem dL_law_1160 : decode cL_law 1160 = .ok (.iaload, 1) := by decide +kernel
theorem dL_law_1161 : decode cL_law 1161 = .ok (.aload_n 0, 1) := by decide +kernel
theorem dL_law_1162 : decode cL_law 1162 = .ok (.iload_n 3, 1) := by decide +kernel
theorem dL_law_1163 : decode cL_law 1163 = .ok (.iconst 2, 1) := by decide +kernel
theorem dL_law_1164 : decode cL_law 1164 = .ok (.iadd, 1) := by decide +kernel
theorem dL_law_1165 : decode cL_law 1165 = .ok (.iaload, 1) := by decide +kernel
theorem dL_law_1166 : decode cL_law 1166 = .ok (.invokevirtual 135, 3) := by decide +kernel
theorem dL_law_1169 : decode cL_law 1169 = .ok (.aload_n 2, 1) := by decide +kernel
theorem dL_law_1170 : decode cL_law 1170 = .ok (.aload_n 0, 1) := by decide +kernel
theorem dL_law_1171 : decode cL_law 1171 = .ok (.iload_n 3, 1) := by decide +kernel
theorem dL_law_1172 : decode cL_law 1172 = .ok (.iconst 1, 1) := by decide +kernel
theorem dL_law_1173 : decode cL_law 1173 = .ok (.iadd, 1) := by decide +kernel
theorem dL_law_1174 : decode cL_law 1174 = .ok (.iaload, 1) := by decide +kernel
theorem dL_law_1175 : decode cL_law 1175 = .ok (.aload_n 0, 1) := by decide +kernel
theorem dL_law_1176 : decode cL_law 1176 = .ok (.iload_n 3, 1) := by decide +kernel
theorem dL_law_1177 : decode cL_law 1177 = .ok (.iconst 2, 1) := by decide +kernel
theorem dL_law_1178 : decode cL_law 1178 = .ok (.iadd, 1) := by decide +kernel
theorem dL_law_1179 : decode cL_law 1179 = .ok (.iaload, 1) := by decide +kernel
theorem dL_law_1180 : decode cL_law 1180 = .ok (.invokevirtual 138, 3) := by decide +kernel
theorem dL_law_1183 : decode cL_law 1183 = .ok (.if_icmp .eq 750, 3) := by decide +kernel
theorem lawc_29 {X : xCX} {b L : Nat} {xs : Nat → Int32} {i : Int32} {M : xMem} (C : xCk X cL_law RL 16) (hS : xSc X b L xs) (h5 : ∀ j, j < 6 → vp_in (i + nI j) L) (hT : TOP M) (kk : ∀ M', TOP M' → WW X 1933 [some (.ref b), some (vr X.1 0), some (vr X.1 146), some (.int i)] [] M') : WW X 1155 [some (.ref b), some (vr X.1 0), some (vr X.1 146), some (.int i)] [] M := by
  obtain ⟨v, M1, M2, f1, f2, T2⟩ := (show STEP (fX10_stood 0 (xs (i + nI 1).toNatClampNeg) (xs (i + nI 2).toNatClampNeg)) (fX11_stood 146 (xs (i + nI 1).toNatClampNeg) (xs (i + nI 2).toNatClampNeg)) from s_stood) M hT
  refine r_aload_n (pc := 1155) C dL_law_1155 rfl rfl ?_
  refine r_xld_n (pc := 1156) C dL_law_1156 rfl rfl rfl ?_
  refine r_iload_n (pc := 1157) C dL_law_1157 rfl rfl ?_
  refine r_iconst (pc := 1158) (v := nI 1) C dL_law_1158 (by decide) ?_
  refine r_iadd (pc := 1159) C dL_law_1159 ?_
  refine r_scld (pc := 1160) C hS (h5 1 (by decide)) dL_law_1160 ?_
  refine r_xld_n (pc := 1161) C dL_law_1161 rfl rfl rfl ?_
  refine r_iload_n (pc := 1162) C dL_law_1162 rfl rfl ?_
  refine r_iconst (pc := 1163) (v := nI 2) C dL_law_1163 (by decide) ?_
  refine r_iadd (pc := 1164) C dL_law_1164 ?_
  refine r_scld (pc := 1165) C hS (h5 2 (by decide)) dL_law_1165 ?_
  refine r_vI2 (pc := 1166) (o := fX10_stood 0 (xs (i + nI 1).toNatClampNeg) (xs (i + nI 2).toNatClampNeg) M) (F := fun r M' => some (r, M')) (z := (v, M1)) C (fun r M' e => zX10_stood X.1 0 rfl (xs (i + nI 1).toNatClampNeg) (xs (i + nI 2).toNatClampNeg) M r M' e) rfl (by decide) rfl mX10_stood lL_135 (by decide) (Nat.le_of_ble_eq_true rfl) dL_law_1166 (by rw [f1]; rfl) (fun r M' e => ?_)
  cases e
  refine r_aload_n (pc := 1169) C dL_law_1169 rfl rfl ?_
  refine r_xld_n (pc := 1170) C dL_law_1170 rfl rfl rfl ?_
  refine r_iload_n (pc := 1171) C dL_law_1171 rfl rfl ?_
  refine r_iconst (pc := 1172) (v := nI 1) C dL_law_1172 (by decide) ?_
  refine r_iadd (pc := 1173) C dL_law_1173 ?_
  refine r_scld (pc := 1174) C hS (h5 1 (by decide)) dL_law_1174 ?_
  refine r_xld_n (pc := 1175) C dL_law_1175 rfl rfl rfl ?_
  refine r_iload_n (pc := 1176) C dL_law_1176 rfl rfl ?_
  refine r_iconst (pc := 1177) (v := nI 2) C dL_law_1177 (by decide) ?_
  refine r_iadd (pc := 1178) C dL_law_1178 ?_
  refine r_scld (pc := 1179) C hS (h5 2 (by decide)) dL_law_1179 ?_
  refine r_vI2 (pc := 1180) (o := fX11_stood 146 (xs (i + nI 1).toNatClampNeg) (xs (i + nI 2).toNatClampNeg) M1) (F := fun r M' => some (r, M')) (z := (v, M2)) C (fun r M' e => zX11_stood X.1 146 rfl (xs (i + nI 1).toNatClampNeg) (xs (i + nI 2).toNatClampNeg) M1 r M' e) rfl (by decide) rfl mX11_stood lL_138 (by decide) (Nat.le_of_ble_eq_true rfl) dL_law_1180 (by rw [f2]; rfl) (fun r M' e => ?_)
  cases e
  exact r_icmp_eq (pc := 1183) (tgt := 1933) (A := some ()) (B := none) (r := ()) C dL_law_1183 (by decide) (if_pos rfl) (fun _ _ => kk M2 T2) (fun _ h => absurd h (by simp))
theorem dL_law_1188 : decode cL_law 1188 = .ok (.aload_n 1, 1) := by decide +kernel
theorem dL_law_1189 : decode cL_law 1189 = .ok (.aload_n 0, 1) := by decide +kernel
theorem dL_law_1190 : decode cL_law 1190 = .ok (.iload_n 3, 1) := by decide +kernel
theorem dL_law_1191 : decode cL_law 1191 = .ok (.iconst 1, 1) := by decide +kernel
theorem dL_law_1192 : decode cL_law 1192 = .ok (.iadd, 1) := by decide +kernel
theorem dL_law_1193 : decode cL_law 1193 = .ok (.iaload, 1) := by decide +kernel
theorem dL_law_1194 : decode cL_law 1194 = .ok (.invokevirtual 139, 3) := by decide +kernel
theorem dL_law_1197 : decode cL_law 1197 = .ok (.aload_n 2, 1) := by decide +kernel
theorem dL_law_1198 : decode cL_law 1198 = .ok (.aload_n 0, 1) := by decide +kernel
theorem dL_law_1199 : decode cL_law 1199 = .ok (.iload_n 3, 1) := by decide +kernel
theorem dL_law_1200 : decode cL_law 1200 = .ok (.iconst 1, 1) := by decide +kernel
theorem dL_law_1201 : decode cL_law 1201 = .ok (.iadd, 1) := by decide +kernel
theorem dL_law_1202 : decode cL_law 1202 = .ok (.iaload, 1) := by decide +kernel
theorem dL_law_1203 : decode cL_law 1203 = .ok (.invokevirtual 142, 3) := by decide +kernel
theorem dL_law_1206 : decode cL_law 1206 = .ok (.if_icmp .eq 727, 3) := by decide +kernel
theorem lawc_30 {X : xCX} {b L : Nat} {xs : Nat → Int32} {i : Int32} {M : xMem} (C : xCk X cL_law RL 16) (hS : xSc X b L xs) (h5 : ∀ j, j < 6 → vp_in (i + nI j) L) (hT : TOP M) (kk : ∀ M', TOP M' → WW X 1933 [some (.ref b), some (vr X.1 0), some (vr X.1 146), some (.int i)] [] M') : WW X 1188 [some (.ref b), some (vr X.1 0), some (vr X.1 146), some (.int i)] [] M := by
  obtain ⟨v, M1, M2, f1, f2, T2⟩ := (show STEP (fX10_longest 0 (xs (i + nI 1).toNatClampNeg)) (fX11_longest 146 (xs (i + nI 1).toNatClampNeg)) from s_longest) M hT
  refine r_aload_n (pc := 1188) C dL_law_1188 rfl rfl ?_
  refine r_xld_n (pc := 1189) C dL_law_1189 rfl rfl rfl ?_
  refine r_iload_n (pc := 1190) C dL_law_1190 rfl rfl ?_
  refine r_iconst (pc := 1191) (v := nI 1) C dL_law_1191 (by decide) ?_
  refine r_iadd (pc := 1192) C dL_law_1192 ?_
  refine r_scld (pc := 1193) C hS (h5 1 (by decide)) dL_law_1193 ?_
  refine r_vI1 (pc := 1194) (o := fX10_longest 0 (xs (i + nI 1).toNatClampNeg) M) (F := fun r M' => some (r, M')) (z := (v, M1)) C (fun r M' e => zX10_longest X.1 0 rfl (xs (i + nI 1).toNatClampNeg) M r M' e) rfl (by decide) rfl mX10_longest lL_139 (by decide) (Nat.le_of_ble_eq_true rfl) dL_law_1194 (by rw [f1]; rfl) (fun r M' e => ?_)
  cases e
  refine r_aload_n (pc := 1197) C dL_law_1197 rfl rfl ?_
  refine r_xld_n (pc := 1198) C dL_law_1198 rfl rfl rfl ?_
  refine r_iload_n (pc := 1199) C dL_law_1199 rfl rfl ?_
  refine r_iconst (pc := 1200) (v := nI 1) C dL_law_1200 (by decide) ?_
  refine r_iadd (pc := 1201) C dL_law_1201 ?_
  refine r_scld (pc := 1202) C hS (h5 1 (by decide)) dL_law_1202 ?_
  refine r_vI1 (pc := 1203) (o := fX11_longest 146 (xs (i + nI 1).toNatClampNeg) M1) (F := fun r M' => some (r, M')) (z := (v, M2)) C (fun r M' e => zX11_longest X.1 146 rfl (xs (i + nI 1).toNatClampNeg) M1 r M' e) rfl (by decide) rfl mX11_longest lL_142 (by decide) (Nat.le_of_ble_eq_true rfl) dL_law_1203 (by rw [f2]; rfl) (fun r M' e => ?_)
  cases e
  exact r_icmp_eq (pc := 1206) (tgt := 1933) (A := some ()) (B := none) (r := ()) C dL_law_1206 (by decide) (if_pos rfl) (fun _ _ => kk M2 T2) (fun _ h => absurd h (by simp))
theorem dL_law_1211 : decode cL_law 1211 = .ok (.aload_n 1, 1) := by decide +kernel
theorem dL_law_1212 : decode cL_law 1212 = .ok (.aload_n 0, 1) := by decide +kernel
theorem dL_law_1213 : decode cL_law 1213 = .ok (.iload_n 3, 1) := by decide +kernel
theorem dL_law_1214 : decode cL_law 1214 = .ok (.iconst 1, 1) := by decide +kernel
theorem dL_law_1215 : decode cL_law 1215 = .ok (.iadd, 1) := by decide +kernel
theorem dL_law_1216 : decode cL_law 1216 = .ok (.iaload, 1) := by decide +kernel
theorem dL_law_1217 : decode cL_law 1217 = .ok (.invokevirtual 143, 3) := by decide +kernel
theorem dL_law_1220 : decode cL_law 1220 = .ok (.aload_n 2, 1) := by decide +kernel
theorem dL_law_1221 : decode cL_law 1221 = .ok (.aload_n 0, 1) := by decide +kernel
theorem dL_law_1222 : decode cL_law 1222 = .ok (.iload_n 3, 1) := by decide +kernel
theorem dL_law_1223 : decode cL_law 1223 = .ok (.iconst 1, 1) := by decide +kernel
theorem dL_law_1224 : decode cL_law 1224 = .ok (.iadd, 1) := by decide +kernel
theorem dL_law_1225 : decode cL_law 1225 = .ok (.iaload, 1) := by decide +kernel
theorem dL_law_1226 : decode cL_law 1226 = .ok (.invokevirtual 146, 3) := by decide +kernel
theorem dL_law_1229 : decode cL_law 1229 = .ok (.if_icmp .eq 704, 3) := by decide +kernel
theorem lawc_31 {X : xCX} {b L : Nat} {xs : Nat → Int32} {i : Int32} {M : xMem} (C : xCk X cL_law RL 16) (hS : xSc X b L xs) (h5 : ∀ j, j < 6 → vp_in (i + nI j) L) (hT : TOP M) (kk : ∀ M', TOP M' → WW X 1933 [some (.ref b), some (vr X.1 0), some (vr X.1 146), some (.int i)] [] M') : WW X 1211 [some (.ref b), some (vr X.1 0), some (vr X.1 146), some (.int i)] [] M := by
  obtain ⟨v, M1, M2, f1, f2, T2⟩ := (show STEP (fX10_great 0 (xs (i + nI 1).toNatClampNeg)) (fX11_great 146 (xs (i + nI 1).toNatClampNeg)) from s_great) M hT
  refine r_aload_n (pc := 1211) C dL_law_1211 rfl rfl ?_
  refine r_xld_n (pc := 1212) C dL_law_1212 rfl rfl rfl ?_
  refine r_iload_n (pc := 1213) C dL_law_1213 rfl rfl ?_
  refine r_iconst (pc := 1214) (v := nI 1) C dL_law_1214 (by decide) ?_
  refine r_iadd (pc := 1215) C dL_law_1215 ?_
  refine r_scld (pc := 1216) C hS (h5 1 (by decide)) dL_law_1216 ?_
  refine r_vI1 (pc := 1217) (o := fX10_great 0 (xs (i + nI 1).toNatClampNeg) M) (F := fun r M' => some (r, M')) (z := (v, M1)) C (fun r M' e => zX10_great X.1 0 rfl (xs (i + nI 1).toNatClampNeg) M r M' e) rfl (by decide) rfl mX10_great lL_143 (by decide) (Nat.le_of_ble_eq_true rfl) dL_law_1217 (by rw [f1]; rfl) (fun r M' e => ?_)
  cases e
  refine r_aload_n (pc := 1220) C dL_law_1220 rfl rfl ?_
  refine r_xld_n (pc := 1221) C dL_law_1221 rfl rfl rfl ?_
  refine r_iload_n (pc := 1222) C dL_law_1222 rfl rfl ?_
  refine r_iconst (pc := 1223) (v := nI 1) C dL_law_1223 (by decide) ?_
  refine r_iadd (pc := 1224) C dL_law_1224 ?_
  refine r_scld (pc := 1225) C hS (h5 1 (by decide)) dL_law_1225 ?_
  refine r_vI1 (pc := 1226) (o := fX11_great 146 (xs (i + nI 1).toNatClampNeg) M1) (F := fun r M' => some (r, M')) (z := (v, M2)) C (fun r M' e => zX11_great X.1 146 rfl (xs (i + nI 1).toNatClampNeg) M1 r M' e) rfl (by decide) rfl mX11_great lL_146 (by decide) (Nat.le_of_ble_eq_true rfl) dL_law_1226 (by rw [f2]; rfl) (fun r M' e => ?_)
  cases e
  exact r_icmp_eq (pc := 1229) (tgt := 1933) (A := some ()) (B := none) (r := ()) C dL_law_1229 (by decide) (if_pos rfl) (fun _ _ => kk M2 T2) (fun _ h => absurd h (by simp))
theorem dL_law_1234 : decode cL_law 1234 = .ok (.aload_n 1, 1) := by decide +kernel
theorem dL_law_1235 : decode cL_law 1235 = .ok (.aload_n 0, 1) := by decide +kernel
theorem dL_law_1236 : decode cL_law 1236 = .ok (.iload_n 3, 1) := by decide +kernel
theorem dL_law_1237 : decode cL_law 1237 = .ok (.iconst 1, 1) := by decide +kernel
theorem dL_law_1238 : decode cL_law 1238 = .ok (.iadd, 1) := by decide +kernel
theorem dL_law_1239 : decode cL_law 1239 = .ok (.iaload, 1) := by decide +kernel
theorem dL_law_1240 : decode cL_law 1240 = .ok (.invokevirtual 147, 3) := by decide +kernel
theorem dL_law_1243 : decode cL_law 1243 = .ok (.aload_n 2, 1) := by decide +kernel
theorem dL_law_1244 : decode cL_law 1244 = .ok (.aload_n 0, 1) := by decide +kernel
theorem dL_law_1245 : decode cL_law 1245 = .ok (.iload_n 3, 1) := by decide +kernel
theorem dL_law_1246 : decode cL_law 1246 = .ok (.iconst 1, 1) := by decide +kernel
theorem dL_law_1247 : decode cL_law 1247 = .ok (.iadd, 1) := by decide +kernel
theorem dL_law_1248 : decode cL_law 1248 = .ok (.iaload, 1) := by decide +kernel
theorem dL_law_1249 : decode cL_law 1249 = .ok (.invokevirtual 150, 3) := by decide +kernel
theorem dL_law_1252 : decode cL_law 1252 = .ok (.if_icmp .eq 681, 3) := by decide +kernel
theorem lawc_32 {X : xCX} {b L : Nat} {xs : Nat → Int32} {i : Int32} {M : xMem} (C : xCk X cL_law RL 16) (hS : xSc X b L xs) (h5 : ∀ j, j < 6 → vp_in (i + nI j) L) (hT : TOP M) (kk : ∀ M', TOP M' → WW X 1933 [some (.ref b), some (vr X.1 0), some (vr X.1 146), some (.int i)] [] M') : WW X 1234 [some (.ref b), some (vr X.1 0), some (vr X.1 146), some (.int i)] [] M := by
  obtain ⟨v, M1, M2, f1, f2, T2⟩ := (show STEP (fX10_behind 0 (xs (i + nI 1).toNatClampNeg)) (fX11_behind 146 (xs (i + nI 1).toNatClampNeg)) from s_behind) M hT
  refine r_aload_n (pc := 1234) C dL_law_1234 rfl rfl ?_
  refine r_xld_n (pc := 1235) C dL_law_1235 rfl rfl rfl ?_
  refine r_iload_n (pc := 1236) C dL_law_1236 rfl rfl ?_
  refine r_iconst (pc := 1237) (v := nI 1) C dL_law_1237 (by decide) ?_
  refine r_iadd (pc := 1238) C dL_law_1238 ?_
  refine r_scld (pc := 1239) C hS (h5 1 (by decide)) dL_law_1239 ?_
  refine r_vI1 (pc := 1240) (o := fX10_behind 0 (xs (i + nI 1).toNatClampNeg) M) (F := fun r M' => some (r, M')) (z := (v, M1)) C (fun r M' e => zX10_behind X.1 0 rfl (xs (i + nI 1).toNatClampNeg) M r M' e) rfl (by decide) rfl mX10_behind lL_147 (by decide) (Nat.le_of_ble_eq_true rfl) dL_law_1240 (by rw [f1]; rfl) (fun r M' e => ?_)
  cases e
  refine r_aload_n (pc := 1243) C dL_law_1243 rfl rfl ?_
  refine r_xld_n (pc := 1244) C dL_law_1244 rfl rfl rfl ?_
  refine r_iload_n (pc := 1245) C dL_law_1245 rfl rfl ?_
  refine r_iconst (pc := 1246) (v := nI 1) C dL_law_1246 (by decide) ?_
  refine r_iadd (pc := 1247) C dL_law_1247 ?_
  refine r_scld (pc := 1248) C hS (h5 1 (by decide)) dL_law_1248 ?_
  refine r_vI1 (pc := 1249) (o := fX11_behind 146 (xs (i + nI 1).toNatClampNeg) M1) (F := fun r M' => some (r, M')) (z := (v, M2)) C (fun r M' e => zX11_behind X.1 146 rfl (xs (i + nI 1).toNatClampNeg) M1 r M' e) rfl (by decide) rfl mX11_behind lL_150 (by decide) (Nat.le_of_ble_eq_true rfl) dL_law_1249 (by rw [f2]; rfl) (fun r M' e => ?_)
  cases e
  exact r_icmp_eq (pc := 1252) (tgt := 1933) (A := some ()) (B := none) (r := ()) C dL_law_1252 (by decide) (if_pos rfl) (fun _ _ => kk M2 T2) (fun _ h => absurd h (by simp))
