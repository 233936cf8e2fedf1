theorem qa_long : Cond.arrayClass .long ∈ mj_TT := mj_tt (List.mem_of_getElem? (i := 1771) (by decide +kernel)) (by decide +kernel)
theorem qe_M : Cond.code y_M_init c_M_init 1 none ∈ mj_TT := mj_tt (List.mem_of_getElem? (i := 1169) (by decide +kernel)) (by decide +kernel)
theorem qe_W : Cond.code y_W_init c_W_init 1 none ∈ mj_TT := mj_tt (List.mem_of_getElem? (i := 26) (by decide +kernel)) (by decide +kernel)
theorem qj_M : Cond.instanceMethod y_M_init ∈ mj_TT := mj_tt (List.mem_of_getElem? (i := 1168) (by decide +kernel)) (by decide +kernel)
theorem qj_W : Cond.instanceMethod y_W_init ∈ mj_TT := mj_tt (List.mem_of_getElem? (i := 25) (by decide +kernel)) (by decide +kernel)
theorem qk_L_16 : Cond.classLink "WinterTellersLaw" 16 "WinterTellersModel" ∈ mj_TT := mj_tt (List.mem_of_getElem? (i := 1165) (by decide +kernel)) (by decide +kernel)
theorem qk_L_8 : Cond.classLink "WinterTellersLaw" 8 "WinterTellers" ∈ mj_TT := mj_tt (List.mem_of_getElem? (i := 22) (by decide +kernel)) (by decide +kernel)
theorem qn_M : Cond.initialized "WinterTellersModel" ∈ mj_TT := mj_tt (List.mem_of_getElem? (i := 13) (by decide +kernel)) (by decide +kernel)
theorem qn_W : Cond.initialized "WinterTellers" ∈ mj_TT := mj_tt (List.mem_of_getElem? (i := 1) (by decide +kernel)) (by decide +kernel)
theorem qw_L_15 : Cond.methodLink "WinterTellersLaw" 15 y_W_init ∈ mj_TT := mj_tt (List.mem_of_getElem? (i := 24) (by decide +kernel)) (by decide +kernel)
theorem qw_L_18 : Cond.methodLink "WinterTellersLaw" 18 y_M_init ∈ mj_TT := mj_tt (List.mem_of_getElem? (i := 1167) (by decide +kernel)) (by decide +kernel)
def mj_M0 : mj_M := mj_u (mj_u (mj_u (mj_u (fun _ _ => 0) 8 1 (-1)) 0 12 2) 48 29 (-1)) 48 30 2
def mj_ad (qx qm qo : Nat) (ux um : mj_U) (s0 s1 s2 s3 s4 : Nat) : Nat → Nat := fun k => (if k < 39 then (if k < 19 then (if k < 9 then (if k < 4 then (if k < 2 then (if k < 1 then qx else ux.1 46) else (if k < 3 then ux.1 0 else ux.1 1)) else (if k < 6 then (if k < 5 then ux.1 2 else ux.1 10) else (if k < 7 then ux.1 11 else (if k < 8 then ux.1 12 else ux.1 13)))) else (if k < 14 then (if k < 11 then (if k < 10 then ux.1 14 else ux.1 15) else (if k < 12 then ux.1 16 else (if k < 13 then ux.1 17 else ux.1 18))) else (if k < 16 then (if k < 15 then ux.1 19 else ux.1 20) else (if k < 17 then ux.1 21 else (if k < 18 then ux.1 22 else ux.1 23))))) else (if k < 29 then (if k < 24 then (if k < 21 then (if k < 20 then ux.1 24 else ux.1 25) else (if k < 22 then ux.1 26 else (if k < 23 then ux.1 27 else ux.1 28))) else (if k < 26 then (if k < 25 then ux.1 29 else ux.1 30) else (if k < 27 then ux.1 31 else (if k < 28 then ux.1 32 else ux.1 33)))) else (if k < 34 then (if k < 31 then (if k < 30 then ux.1 34 else ux.1 35) else (if k < 32 then ux.1 36 else (if k < 33 then ux.1 37 else ux.1 38))) else (if k < 36 then (if k < 35 then ux.1 39 else ux.1 40) else (if k < 37 then ux.1 41 else (if k < 38 then ux.1 42 else ux.1 43)))))) else (if k < 59 then (if k < 49 then (if k < 44 then (if k < 41 then (if k < 40 then ux.1 44 else ux.1 45) else (if k < 42 then ux.1 3 else (if k < 43 then ux.1 4 else ux.1 5))) else (if k < 46 then (if k < 45 then ux.1 6 else ux.1 7) else (if k < 47 then ux.1 8 else (if k < 48 then ux.1 9 else qm)))) else (if k < 54 then (if k < 51 then (if k < 50 then um.1 0 else um.1 1) else (if k < 52 then um.1 2 else (if k < 53 then um.1 3 else um.1 4))) else (if k < 56 then (if k < 55 then um.1 5 else um.1 6) else (if k < 57 then um.1 7 else (if k < 58 then um.1 8 else um.1 9))))) else (if k < 69 then (if k < 64 then (if k < 61 then (if k < 60 then um.1 10 else um.1 11) else (if k < 62 then um.1 12 else (if k < 63 then um.1 13 else um.1 14))) else (if k < 66 then (if k < 65 then um.1 15 else um.1 16) else (if k < 67 then um.1 17 else (if k < 68 then um.1 18 else um.1 19)))) else (if k < 200 then (if k < 71 then (if k < 70 then um.1 20 else um.1 21) else (if k < 72 then um.1 22 else (if k < 73 then um.1 23 else qo))) else (if k < 202 then (if k < 201 then s0 else s1) else (if k < 203 then s2 else (if k < 204 then s3 else s4)))))))
def mj_ca (ux um : mj_U) (ao : ClassId) : Nat → ClassId := fun k => (if k < 37 then (if k < 18 then (if k < 9 then (if k < 4 then (if k < 2 then (if k < 1 then ux.2 34 else ux.2 34) else (if k < 3 then ux.2 34 else ux.2 0)) else (if k < 6 then (if k < 5 then ux.2 34 else ux.2 7) else (if k < 7 then ux.2 34 else (if k < 8 then ux.2 8 else ux.2 34)))) else (if k < 13 then (if k < 11 then (if k < 10 then ux.2 9 else ux.2 10) else (if k < 12 then ux.2 11 else ux.2 12)) else (if k < 15 then (if k < 14 then ux.2 34 else ux.2 13) else (if k < 16 then ux.2 14 else (if k < 17 then ux.2 15 else ux.2 16))))) else (if k < 27 then (if k < 22 then (if k < 20 then (if k < 19 then ux.2 17 else ux.2 18) else (if k < 21 then ux.2 34 else ux.2 19)) else (if k < 24 then (if k < 23 then ux.2 20 else ux.2 21) else (if k < 25 then ux.2 34 else (if k < 26 then ux.2 22 else ux.2 23)))) else (if k < 32 then (if k < 29 then (if k < 28 then ux.2 24 else ux.2 34) else (if k < 30 then ux.2 34 else (if k < 31 then ux.2 25 else ux.2 26))) else (if k < 34 then (if k < 33 then ux.2 27 else ux.2 34) else (if k < 35 then ux.2 28 else (if k < 36 then ux.2 29 else ux.2 30)))))) else (if k < 55 then (if k < 46 then (if k < 41 then (if k < 39 then (if k < 38 then ux.2 31 else ux.2 34) else (if k < 40 then ux.2 32 else ux.2 33)) else (if k < 43 then (if k < 42 then ux.2 34 else ux.2 1) else (if k < 44 then ux.2 2 else (if k < 45 then ux.2 3 else ux.2 4)))) else (if k < 50 then (if k < 48 then (if k < 47 then ux.2 5 else ux.2 6) else (if k < 49 then ux.2 34 else um.2 0)) else (if k < 52 then (if k < 51 then um.2 1 else um.2 2) else (if k < 53 then um.2 3 else (if k < 54 then um.2 4 else um.2 5))))) else (if k < 64 then (if k < 59 then (if k < 57 then (if k < 56 then um.2 6 else um.2 7) else (if k < 58 then um.2 8 else um.2 9)) else (if k < 61 then (if k < 60 then um.2 10 else um.2 11) else (if k < 62 then um.2 12 else (if k < 63 then um.2 13 else um.2 14)))) else (if k < 69 then (if k < 66 then (if k < 65 then um.2 15 else um.2 16) else (if k < 67 then um.2 17 else (if k < 68 then um.2 18 else um.2 19))) else (if k < 71 then (if k < 70 then um.2 20 else um.2 21) else (if k < 72 then um.2 22 else (if k < 73 then um.2 23 else ao)))))))
section Perm
variable (qx qm qo : Nat) (ux um : mj_U) (ao : ClassId) (s0 s1 s2 s3 s4 : Nat)
theorem ae_0 : mj_ad qx qm qo ux um s0 s1 s2 s3 s4 0 = qx := rfl
theorem ae_1 : mj_ad qx qm qo ux um s0 s1 s2 s3 s4 1 = ux.1 46 := rfl
theorem ae_2 : mj_ad qx qm qo ux um s0 s1 s2 s3 s4 2 = ux.1 0 := rfl
theorem ae_3 : mj_ad qx qm qo ux um s0 s1 s2 s3 s4 3 = ux.1 1 := rfl
theorem ae_4 : mj_ad qx qm qo ux um s0 s1 s2 s3 s4 4 = ux.1 2 := rfl
theorem ae_5 : mj_ad qx qm qo ux um s0 s1 s2 s3 s4 5 = ux.1 10 := rfl
theorem ae_6 : mj_ad qx qm qo ux um s0 s1 s2 s3 s4 6 = ux.1 11 := rfl
theorem ae_7 : mj_ad qx qm qo ux um s0 s1 s2 s3 s4 7 = ux.1 12 := rfl
theorem ae_8 : mj_ad qx qm qo ux um s0 s1 s2 s3 s4 8 = ux.1 13 := rfl
theorem ae_9 : mj_ad qx qm qo ux um s0 s1 s2 s3 s4 9 = ux.1 14 := rfl
theorem ae_10 : mj_ad qx qm qo ux um s0 s1 s2 s3 s4 10 = ux.1 15 := rfl
theorem ae_11 : mj_ad qx qm qo ux um s0 s1 s2 s3 s4 11 = ux.1 16 := rfl
theorem ae_12 : mj_ad qx qm qo ux um s0 s1 s2 s3 s4 12 = ux.1 17 := rfl
theorem ae_13 : mj_ad qx qm qo ux um s0 s1 s2 s3 s4 13 = ux.1 18 := rfl
theorem ae_14 : mj_ad qx qm qo ux um s0 s1 s2 s3 s4 14 = ux.1 19 := rfl
theorem ae_15 : mj_ad qx qm qo ux um s0 s1 s2 s3 s4 15 = ux.1 20 := rfl
theorem ae_16 : mj_ad qx qm qo ux um s0 s1 s2 s3 s4 16 = ux.1 21 := rfl
theorem ae_17 : mj_ad qx qm qo ux um s0 s1 s2 s3 s4 17 = ux.1 22 := rfl
theorem ae_18 : mj_ad qx qm qo ux um s0 s1 s2 s3 s4 18 = ux.1 23 := rfl
theorem ae_19 : mj_ad qx qm qo ux um s0 s1 s2 s3 s4 19 = ux.1 24 := rfl
theorem ae_20 : mj_ad qx qm qo ux um s0 s1 s2 s3 s4 20 = ux.1 25 := rfl
theorem ae_21 : mj_ad qx qm qo ux um s0 s1 s2 s3 s4 21 = ux.1 26 := rfl
theorem ae_22 : mj_ad qx qm qo ux um s0 s1 s2 s3 s4 22 = ux.1 27 := rfl
theorem ae_23 : mj_ad qx qm qo ux um s0 s1 s2 s3 s4 23 = ux.1 28 := rfl
theorem ae_24 : mj_ad qx qm qo ux um s0 s1 s2 s3 s4 24 = ux.1 29 := rfl
theorem ae_25 : mj_ad qx qm qo ux um s0 s1 s2 s3 s4 25 = ux.1 30 := rfl
theorem ae_26 : mj_ad qx qm qo ux um s0 s1 s2 s3 s4 26 = ux.1 31 := rfl
theorem ae_27 : mj_ad qx qm qo ux um s0 s1 s2 s3 s4 27 = ux.1 32 := rfl
theorem ae_28 : mj_ad qx qm qo ux um s0 s1 s2 s3 s4 28 = ux.1 33 := rfl
theorem ae_29 : mj_ad qx qm qo ux um s0 s1 s2 s3 s4 29 = ux.1 34 := rfl
theorem ae_30 : mj_ad qx qm qo ux um s0 s1 s2 s3 s4 30 = ux.1 35 := rfl
theorem ae_31 : mj_ad qx qm qo ux um s0 s1 s2 s3 s4 31 = ux.1 36 := rfl
theorem ae_32 : mj_ad qx qm qo ux um s0 s1 s2 s3 s4 32 = ux.1 37 := rfl
theorem ae_33 : mj_ad qx qm qo ux um s0 s1 s2 s3 s4 33 = ux.1 38 := rfl
theorem ae_34 : mj_ad qx qm qo ux um s0 s1 s2 s3 s4 34 = ux.1 39 := rfl
theorem ae_35 : mj_ad qx qm qo ux um s0 s1 s2 s3 s4 35 = ux.1 40 := rfl
theorem ae_36 : mj_ad qx qm qo ux um s0 s1 s2 s3 s4 36 = ux.1 41 := rfl
theorem ae_37 : mj_ad qx qm qo ux um s0 s1 s2 s3 s4 37 = ux.1 42 := rfl
theorem ae_38 : mj_ad qx qm qo ux um s0 s1 s2 s3 s4 38 = ux.1 43 := rfl
theorem ae_39 : mj_ad qx qm qo ux um s0 s1 s2 s3 s4 39 = ux.1 44 := rfl
theorem ae_40 : mj_ad qx qm qo ux um s0 s1 s2 s3 s4 40 = ux.1 45 := rfl
theorem ae_41 : mj_ad qx qm qo ux um s0 s1 s2 s3 s4 41 = ux.1 3 := rfl
theorem ae_42 : mj_ad qx qm qo ux um s0 s1 s2 s3 s4 42 = ux.1 4 := rfl
theorem ae_43 : mj_ad qx qm qo ux um s0 s1 s2 s3 s4 43 = ux.1 5 := rfl
theorem ae_44 : mj_ad qx qm qo ux um s0 s1 s2 s3 s4 44 = ux.1 6 := rfl
theorem ae_45 : mj_ad qx qm qo ux um s0 s1 s2 s3 s4 45 = ux.1 7 := rfl
theorem ae_46 : mj_ad qx qm qo ux um s0 s1 s2 s3 s4 46 = ux.1 8 := rfl
theorem ae_47 : mj_ad qx qm qo ux um s0 s1 s2 s3 s4 47 = ux.1 9 := rfl
theorem ae_48 : mj_ad qx qm qo ux um s0 s1 s2 s3 s4 48 = qm := rfl
theorem ae_49 : mj_ad qx qm qo ux um s0 s1 s2 s3 s4 49 = um.1 0 := rfl
theorem ae_50 : mj_ad qx qm qo ux um s0 s1 s2 s3 s4 50 = um.1 1 := rfl
theorem ae_51 : mj_ad qx qm qo ux um s0 s1 s2 s3 s4 51 = um.1 2 := rfl
theorem ae_52 : mj_ad qx qm qo ux um s0 s1 s2 s3 s4 52 = um.1 3 := rfl
theorem ae_53 : mj_ad qx qm qo ux um s0 s1 s2 s3 s4 53 = um.1 4 := rfl
theorem ae_54 : mj_ad qx qm qo ux um s0 s1 s2 s3 s4 54 = um.1 5 := rfl
theorem ae_55 : mj_ad qx qm qo ux um s0 s1 s2 s3 s4 55 = um.1 6 := rfl
theorem ae_56 : mj_ad qx qm qo ux um s0 s1 s2 s3 s4 56 = um.1 7 := rfl
theorem ae_57 : mj_ad qx qm qo ux um s0 s1 s2 s3 s4 57 = um.1 8 := rfl
theorem ae_58 : mj_ad qx qm qo ux um s0 s1 s2 s3 s4 58 = um.1 9 := rfl
theorem ae_59 : mj_ad qx qm qo ux um s0 s1 s2 s3 s4 59 = um.1 10 := rfl
theorem ae_60 : mj_ad qx qm qo ux um s0 s1 s2 s3 s4 60 = um.1 11 := rfl
theorem ae_61 : mj_ad qx qm qo ux um s0 s1 s2 s3 s4 61 = um.1 12 := rfl
theorem ae_62 : mj_ad qx qm qo ux um s0 s1 s2 s3 s4 62 = um.1 13 := rfl
theorem ae_63 : mj_ad qx qm qo ux um s0 s1 s2 s3 s4 63 = um.1 14 := rfl
theorem ae_64 : mj_ad qx qm qo ux um s0 s1 s2 s3 s4 64 = um.1 15 := rfl
theorem ae_65 : mj_ad qx qm qo ux um s0 s1 s2 s3 s4 65 = um.1 16 := rfl
theorem ae_66 : mj_ad qx qm qo ux um s0 s1 s2 s3 s4 66 = um.1 17 := rfl
theorem ae_67 : mj_ad qx qm qo ux um s0 s1 s2 s3 s4 67 = um.1 18 := rfl
theorem ae_68 : mj_ad qx qm qo ux um s0 s1 s2 s3 s4 68 = um.1 19 := rfl
theorem ae_69 : mj_ad qx qm qo ux um s0 s1 s2 s3 s4 69 = um.1 20 := rfl
theorem ae_70 : mj_ad qx qm qo ux um s0 s1 s2 s3 s4 70 = um.1 21 := rfl
theorem ae_71 : mj_ad qx qm qo ux um s0 s1 s2 s3 s4 71 = um.1 22 := rfl
theorem ae_72 : mj_ad qx qm qo ux um s0 s1 s2 s3 s4 72 = um.1 23 := rfl
theorem ae_73 : mj_ad qx qm qo ux um s0 s1 s2 s3 s4 73 = qo := rfl
theorem ae_200 : mj_ad qx qm qo ux um s0 s1 s2 s3 s4 200 = s0 := rfl
theorem ae_201 : mj_ad qx qm qo ux um s0 s1 s2 s3 s4 201 = s1 := rfl
theorem ae_202 : mj_ad qx qm qo ux um s0 s1 s2 s3 s4 202 = s2 := rfl
theorem ae_203 : mj_ad qx qm qo ux um s0 s1 s2 s3 s4 203 = s3 := rfl
theorem ae_204 : mj_ad qx qm qo ux um s0 s1 s2 s3 s4 204 = s4 := rfl
theorem ce_0 : mj_ca ux um ao 0 = ux.2 34 := rfl
theorem ce_1 : mj_ca ux um ao 1 = ux.2 34 := rfl
theorem ce_2 : mj_ca ux um ao 2 = ux.2 34 := rfl
theorem ce_3 : mj_ca ux um ao 3 = ux.2 0 := rfl
theorem ce_4 : mj_ca ux um ao 4 = ux.2 34 := rfl
theorem ce_5 : mj_ca ux um ao 5 = ux.2 7 := rfl
theorem ce_6 : mj_ca ux um ao 6 = ux.2 34 := rfl
theorem ce_7 : mj_ca ux um ao 7 = ux.2 8 := rfl
theorem ce_8 : mj_ca ux um ao 8 = ux.2 34 := rfl
theorem ce_9 : mj_ca ux um ao 9 = ux.2 9 := rfl
theorem ce_10 : mj_ca ux um ao 10 = ux.2 10 := rfl
theorem ce_11 : mj_ca ux um ao 11 = ux.2 11 := rfl
theorem ce_12 : mj_ca ux um ao 12 = ux.2 12 := rfl
theorem ce_13 : mj_ca ux um ao 13 = ux.2 34 := rfl
theorem ce_14 : mj_ca ux um ao 14 = ux.2 13 := rfl
theorem ce_15 : mj_ca ux um ao 15 = ux.2 14 := rfl
theorem ce_16 : mj_ca ux um ao 16 = ux.2 15 := rfl
theorem ce_17 : mj_ca ux um ao 17 = ux.2 16 := rfl
theorem ce_18 : mj_ca ux um ao 18 = ux.2 17 := rfl
theorem ce_19 : mj_ca ux um ao 19 = ux.2 18 := rfl
theorem ce_20 : mj_ca ux um ao 20 = ux.2 34 := rfl
theorem ce_21 : mj_ca ux um ao 21 = ux.2 19 := rfl
theorem ce_22 : mj_ca ux um ao 22 = ux.2 20 := rfl
theorem ce_23 : mj_ca ux um ao 23 = ux.2 21 := rfl
theorem ce_24 : mj_ca ux um ao 24 = ux.2 34 := rfl
theorem ce_25 : mj_ca ux um ao 25 = ux.2 22 := rfl
theorem ce_26 : mj_ca ux um ao 26 = ux.2 23 := rfl
theorem ce_27 : mj_ca ux um ao 27 = ux.2 24 := rfl
theorem ce_28 : mj_ca ux um ao 28 = ux.2 34 := rfl
theorem ce_29 : mj_ca ux um ao 29 = ux.2 34 := rfl
theorem ce_30 : mj_ca ux um ao 30 = ux.2 25 := rfl
theorem ce_31 : mj_ca ux um ao 31 = ux.2 26 := rfl
theorem ce_32 : mj_ca ux um ao 32 = ux.2 27 := rfl
theorem ce_33 : mj_ca ux um ao 33 = ux.2 34 := rfl
theorem ce_34 : mj_ca ux um ao 34 = ux.2 28 := rfl
theorem ce_35 : mj_ca ux um ao 35 = ux.2 29 := rfl
theorem ce_36 : mj_ca ux um ao 36 = ux.2 30 := rfl
theorem ce_37 : mj_ca ux um ao 37 = ux.2 31 := rfl
theorem ce_38 : mj_ca ux um ao 38 = ux.2 34 := rfl
theorem ce_39 : mj_ca ux um ao 39 = ux.2 32 := rfl
theorem ce_40 : mj_ca ux um ao 40 = ux.2 33 := rfl
theorem ce_41 : mj_ca ux um ao 41 = ux.2 34 := rfl
theorem ce_42 : mj_ca ux um ao 42 = ux.2 1 := rfl
theorem ce_43 : mj_ca ux um ao 43 = ux.2 2 := rfl
theorem ce_44 : mj_ca ux um ao 44 = ux.2 3 := rfl
theorem ce_45 : mj_ca ux um ao 45 = ux.2 4 := rfl
theorem ce_46 : mj_ca ux um ao 46 = ux.2 5 := rfl
theorem ce_47 : mj_ca ux um ao 47 = ux.2 6 := rfl
theorem ce_48 : mj_ca ux um ao 48 = ux.2 34 := rfl
theorem ce_49 : mj_ca ux um ao 49 = um.2 0 := rfl
theorem ce_50 : mj_ca ux um ao 50 = um.2 1 := rfl
theorem ce_51 : mj_ca ux um ao 51 = um.2 2 := rfl
theorem ce_52 : mj_ca ux um ao 52 = um.2 3 := rfl
theorem ce_53 : mj_ca ux um ao 53 = um.2 4 := rfl
theorem ce_54 : mj_ca ux um ao 54 = um.2 5 := rfl
theorem ce_55 : mj_ca ux um ao 55 = um.2 6 := rfl
theorem ce_56 : mj_ca ux um ao 56 = um.2 7 := rfl
theorem ce_57 : mj_ca ux um ao 57 = um.2 8 := rfl
theorem ce_58 : mj_ca ux um ao 58 = um.2 9 := rfl
theorem ce_59 : mj_ca ux um ao 59 = um.2 10 := rfl
theorem ce_60 : mj_ca ux um ao 60 = um.2 11 := rfl
theorem ce_61 : mj_ca ux um ao 61 = um.2 12 := rfl
theorem ce_62 : mj_ca ux um ao 62 = um.2 13 := rfl
theorem ce_63 : mj_ca ux um ao 63 = um.2 14 := rfl
theorem ce_64 : mj_ca ux um ao 64 = um.2 15 := rfl
theorem ce_65 : mj_ca ux um ao 65 = um.2 16 := rfl
theorem ce_66 : mj_ca ux um ao 66 = um.2 17 := rfl
theorem ce_67 : mj_ca ux um ao 67 = um.2 18 := rfl
theorem ce_68 : mj_ca ux um ao 68 = um.2 19 := rfl
theorem ce_69 : mj_ca ux um ao 69 = um.2 20 := rfl
theorem ce_70 : mj_ca ux um ao 70 = um.2 21 := rfl
theorem ce_71 : mj_ca ux um ao 71 = um.2 22 := rfl
theorem ce_72 : mj_ca ux um ao 72 = um.2 23 := rfl
theorem ce_73 : mj_ca ux um ao 73 = ao := rfl
abbrev mj_ws : va_W := W_W qx ux ++ W_M qm um ++ [(qo, .inl (ao, 1, .inr (.inl (fun _ => 0))))]
abbrev mj_ts : List (ClassId × FieldType) := Y_W ux ++ Y_M um ++ [(ao, .long)]
theorem pe_0 : (mj_ws qx qm qo ux um ao)[0]? = some (qx, .inr (11, [.ref (ux.1 0), .ref (ux.1 2), .ref (ux.1 11), .ref (ux.1 13), .ref (ux.1 18), .ref (ux.1 25), .ref (ux.1 29), .ref (ux.1 33), .ref (ux.1 34), .ref (ux.1 38), .ref (ux.1 43), .ref (ux.1 46), .int 2])) := rfl
theorem te_0 : (mj_ts ux um ao)[34]? = some (ux.2 34, .int) := rfl
theorem pe_1 : (mj_ws qx qm qo ux um ao)[47]? = some (ux.1 46, .inl (ux.2 34, 5, .inl (fun _ => 0))) := rfl
theorem te_1 : (mj_ts ux um ao)[34]? = some (ux.2 34, .int) := rfl
theorem pe_2 : (mj_ws qx qm qo ux um ao)[1]? = some (ux.1 0, .inr (10, [.ref (ux.1 1), .int 0, .int 0, .int 0])) := rfl
theorem te_2 : (mj_ts ux um ao)[34]? = some (ux.2 34, .int) := rfl
theorem pe_3 : (mj_ws qx qm qo ux um ao)[2]? = some (ux.1 1, .inl (ux.2 0, 240, .inl (fun _ => 0))) := rfl
theorem te_3 : (mj_ts ux um ao)[0]? = some (ux.2 0, .int) := rfl
theorem pe_4 : (mj_ws qx qm qo ux um ao)[3]? = some (ux.1 2, .inr (1, [.ref (ux.1 3), .ref (ux.1 0), .ref (ux.1 10), .int 0])) := rfl
theorem te_4 : (mj_ts ux um ao)[34]? = some (ux.2 34, .int) := rfl
theorem pe_5 : (mj_ws qx qm qo ux um ao)[11]? = some (ux.1 10, .inl (ux.2 7, 10, .inl (fun _ => 0))) := rfl
theorem te_5 : (mj_ts ux um ao)[7]? = some (ux.2 7, .int) := rfl
theorem pe_6 : (mj_ws qx qm qo ux um ao)[12]? = some (ux.1 11, .inr (4, [.ref (ux.1 12), .int 0, .ref (ux.1 0)])) := rfl
theorem te_6 : (mj_ts ux um ao)[34]? = some (ux.2 34, .int) := rfl
theorem pe_7 : (mj_ws qx qm qo ux um ao)[13]? = some (ux.1 12, .inl (ux.2 8, 240, .inl (fun _ => 0))) := rfl
theorem te_7 : (mj_ts ux um ao)[8]? = some (ux.2 8, .int) := rfl
theorem pe_8 : (mj_ws qx qm qo ux um ao)[14]? = some (ux.1 13, .inr (5, [.int 0, .int (-1), .ref (ux.1 14), .ref (ux.1 15), .ref (ux.1 16), .ref (ux.1 17)])) := rfl
theorem te_8 : (mj_ts ux um ao)[34]? = some (ux.2 34, .int) := rfl
theorem pe_9 : (mj_ws qx qm qo ux um ao)[15]? = some (ux.1 14, .inl (ux.2 9, 6, .inl (fun _ => 0))) := rfl
theorem te_9 : (mj_ts ux um ao)[9]? = some (ux.2 9, .int) := rfl
theorem pe_10 : (mj_ws qx qm qo ux um ao)[16]? = some (ux.1 15, .inl (ux.2 10, 960, .inl (fun _ => 0))) := rfl
theorem te_10 : (mj_ts ux um ao)[10]? = some (ux.2 10, .int) := rfl
theorem pe_11 : (mj_ws qx qm qo ux um ao)[17]? = some (ux.1 16, .inl (ux.2 11, 4, .inl (fun _ => 0))) := rfl
theorem te_11 : (mj_ts ux um ao)[11]? = some (ux.2 11, .int) := rfl
theorem pe_12 : (mj_ws qx qm qo ux um ao)[18]? = some (ux.1 17, .inl (ux.2 12, 32, .inl (fun _ => 0))) := rfl
theorem te_12 : (mj_ts ux um ao)[12]? = some (ux.2 12, .int) := rfl
theorem pe_13 : (mj_ws qx qm qo ux um ao)[19]? = some (ux.1 18, .inr (0, [.int 0, .int 0, .int 0, .int 0, .int 0, .int 0, .ref (ux.1 19), .ref (ux.1 20), .ref (ux.1 21), .ref (ux.1 22), .ref (ux.1 23), .ref (ux.1 24)])) := rfl
theorem te_13 : (mj_ts ux um ao)[34]? = some (ux.2 34, .int) := rfl
theorem pe_14 : (mj_ws qx qm qo ux um ao)[20]? = some (ux.1 19, .inl (ux.2 13, 6, .inl (fun _ => 0))) := rfl
theorem te_14 : (mj_ts ux um ao)[13]? = some (ux.2 13, .int) := rfl
theorem pe_15 : (mj_ws qx qm qo ux um ao)[21]? = some (ux.1 20, .inl (ux.2 14, 6, .inl (fun _ => 0))) := rfl
theorem te_15 : (mj_ts ux um ao)[14]? = some (ux.2 14, .int) := rfl
theorem pe_16 : (mj_ws qx qm qo ux um ao)[22]? = some (ux.1 21, .inl (ux.2 15, 6, .inl (fun _ => 0))) := rfl
theorem te_16 : (mj_ts ux um ao)[15]? = some (ux.2 15, .int) := rfl
theorem pe_17 : (mj_ws qx qm qo ux um ao)[23]? = some (ux.1 22, .inl (ux.2 16, 6, .inl (fun _ => 0))) := rfl
theorem te_17 : (mj_ts ux um ao)[16]? = some (ux.2 16, .int) := rfl
theorem pe_18 : (mj_ws qx qm qo ux um ao)[24]? = some (ux.1 23, .inl (ux.2 17, 6, .inl (fun _ => 0))) := rfl
theorem te_18 : (mj_ts ux um ao)[17]? = some (ux.2 17, .int) := rfl
theorem pe_19 : (mj_ws qx qm qo ux um ao)[25]? = some (ux.1 24, .inl (ux.2 18, 6, .inl (fun _ => 0))) := rfl
theorem te_19 : (mj_ts ux um ao)[18]? = some (ux.2 18, .int) := rfl
theorem pe_20 : (mj_ws qx qm qo ux um ao)[26]? = some (ux.1 25, .inr (8, [.int 0, .int 0, .int 0, .int 0, .int 0, .int 0, .int 0, .ref (ux.1 26), .ref (ux.1 27), .ref (ux.1 28)])) := rfl
theorem te_20 : (mj_ts ux um ao)[34]? = some (ux.2 34, .int) := rfl
theorem pe_21 : (mj_ws qx qm qo ux um ao)[27]? = some (ux.1 26, .inl (ux.2 19, 6, .inl (fun _ => 0))) := rfl
theorem te_21 : (mj_ts ux um ao)[19]? = some (ux.2 19, .int) := rfl
theorem pe_22 : (mj_ws qx qm qo ux um ao)[28]? = some (ux.1 27, .inl (ux.2 20, 36, .inl (fun _ => 0))) := rfl
theorem te_22 : (mj_ts ux um ao)[20]? = some (ux.2 20, .int) := rfl
theorem pe_23 : (mj_ws qx qm qo ux um ao)[29]? = some (ux.1 28, .inl (ux.2 21, 100, .inl (fun _ => 0))) := rfl
theorem te_23 : (mj_ts ux um ao)[21]? = some (ux.2 21, .int) := rfl
theorem pe_24 : (mj_ws qx qm qo ux um ao)[30]? = some (ux.1 29, .inr (6, [.int 0, .int 0, .int 0, .ref (ux.1 30), .ref (ux.1 31), .ref (ux.1 32)])) := rfl
theorem te_24 : (mj_ts ux um ao)[34]? = some (ux.2 34, .int) := rfl
theorem pe_25 : (mj_ws qx qm qo ux um ao)[31]? = some (ux.1 30, .inl (ux.2 22, 1960, .inl (fun _ => 0))) := rfl
theorem te_25 : (mj_ts ux um ao)[22]? = some (ux.2 22, .int) := rfl
theorem pe_26 : (mj_ws qx qm qo ux um ao)[32]? = some (ux.1 31, .inl (ux.2 23, 49, .inl (fun _ => 0))) := rfl
theorem te_26 : (mj_ts ux um ao)[23]? = some (ux.2 23, .int) := rfl
theorem pe_27 : (mj_ws qx qm qo ux um ao)[33]? = some (ux.1 32, .inl (ux.2 24, 100, .inl (fun _ => 0))) := rfl
theorem te_27 : (mj_ts ux um ao)[24]? = some (ux.2 24, .int) := rfl
theorem pe_28 : (mj_ws qx qm qo ux um ao)[34]? = some (ux.1 33, .inr (9, [.ref (ux.1 18), .ref (ux.1 25), .ref (ux.1 13)])) := rfl
theorem te_28 : (mj_ts ux um ao)[34]? = some (ux.2 34, .int) := rfl
theorem pe_29 : (mj_ws qx qm qo ux um ao)[35]? = some (ux.1 34, .inr (3, [.int 0, .ref (ux.1 18), .ref (ux.1 33), .ref (ux.1 35), .ref (ux.1 36), .ref (ux.1 37)])) := rfl
theorem te_29 : (mj_ts ux um ao)[34]? = some (ux.2 34, .int) := rfl
theorem pe_30 : (mj_ws qx qm qo ux um ao)[36]? = some (ux.1 35, .inl (ux.2 25, 10, .inl (fun _ => 0))) := rfl
theorem te_30 : (mj_ts ux um ao)[25]? = some (ux.2 25, .int) := rfl
theorem pe_31 : (mj_ws qx qm qo ux um ao)[37]? = some (ux.1 36, .inl (ux.2 26, 10, .inl (fun _ => 0))) := rfl
theorem te_31 : (mj_ts ux um ao)[26]? = some (ux.2 26, .int) := rfl
theorem pe_32 : (mj_ws qx qm qo ux um ao)[38]? = some (ux.1 37, .inl (ux.2 27, 10, .inl (fun _ => 0))) := rfl
theorem te_32 : (mj_ts ux um ao)[27]? = some (ux.2 27, .boolean) := rfl
theorem pe_33 : (mj_ws qx qm qo ux um ao)[39]? = some (ux.1 38, .inr (7, [.int 0, .int 0, .int 0, .int 0, .int 0, .int 0, .int 0, .ref (ux.1 18), .ref (ux.1 25), .ref (ux.1 33), .ref (ux.1 39), .ref (ux.1 40), .ref (ux.1 41), .ref (ux.1 42)])) := rfl
theorem te_33 : (mj_ts ux um ao)[34]? = some (ux.2 34, .int) := rfl
theorem pe_34 : (mj_ws qx qm qo ux um ao)[40]? = some (ux.1 39, .inl (ux.2 28, 36, .inl (fun _ => 0))) := rfl
theorem te_34 : (mj_ts ux um ao)[28]? = some (ux.2 28, .int) := rfl
theorem pe_35 : (mj_ws qx qm qo ux um ao)[41]? = some (ux.1 40, .inl (ux.2 29, 36, .inl (fun _ => 0))) := rfl
theorem te_35 : (mj_ts ux um ao)[29]? = some (ux.2 29, .int) := rfl
theorem pe_36 : (mj_ws qx qm qo ux um ao)[42]? = some (ux.1 41, .inl (ux.2 30, 36, .inl (fun _ => 0))) := rfl
theorem te_36 : (mj_ts ux um ao)[30]? = some (ux.2 30, .int) := rfl
theorem pe_37 : (mj_ws qx qm qo ux um ao)[43]? = some (ux.1 42, .inl (ux.2 31, 448, .inl (fun _ => 0))) := rfl
theorem te_37 : (mj_ts ux um ao)[31]? = some (ux.2 31, .int) := rfl
theorem pe_38 : (mj_ws qx qm qo ux um ao)[44]? = some (ux.1 43, .inr (2, [.ref (ux.1 18), .ref (ux.1 33), .ref (ux.1 44), .ref (ux.1 45)])) := rfl
theorem te_38 : (mj_ts ux um ao)[34]? = some (ux.2 34, .int) := rfl
theorem pe_39 : (mj_ws qx qm qo ux um ao)[45]? = some (ux.1 44, .inl (ux.2 32, 6, .inl (fun _ => 0))) := rfl
theorem te_39 : (mj_ts ux um ao)[32]? = some (ux.2 32, .int) := rfl
theorem pe_40 : (mj_ws qx qm qo ux um ao)[46]? = some (ux.1 45, .inl (ux.2 33, 6, .inl (fun _ => 0))) := rfl
theorem te_40 : (mj_ts ux um ao)[33]? = some (ux.2 33, .int) := rfl
theorem pe_41 : (mj_ws qx qm qo ux um ao)[4]? = some (ux.1 3, .inr (0, [.int 0, .int 0, .int 0, .int 0, .int 0, .int 0, .ref (ux.1 4), .ref (ux.1 5), .ref (ux.1 6), .ref (ux.1 7), .ref (ux.1 8), .ref (ux.1 9)])) := rfl
theorem te_41 : (mj_ts ux um ao)[34]? = some (ux.2 34, .int) := rfl
theorem pe_42 : (mj_ws qx qm qo ux um ao)[5]? = some (ux.1 4, .inl (ux.2 1, 6, .inl (fun _ => 0))) := rfl
theorem te_42 : (mj_ts ux um ao)[1]? = some (ux.2 1, .int) := rfl
theorem pe_43 : (mj_ws qx qm qo ux um ao)[6]? = some (ux.1 5, .inl (ux.2 2, 6, .inl (fun _ => 0))) := rfl
theorem te_43 : (mj_ts ux um ao)[2]? = some (ux.2 2, .int) := rfl
theorem pe_44 : (mj_ws qx qm qo ux um ao)[7]? = some (ux.1 6, .inl (ux.2 3, 6, .inl (fun _ => 0))) := rfl
theorem te_44 : (mj_ts ux um ao)[3]? = some (ux.2 3, .int) := rfl
theorem pe_45 : (mj_ws qx qm qo ux um ao)[8]? = some (ux.1 7, .inl (ux.2 4, 6, .inl (fun _ => 0))) := rfl
theorem te_45 : (mj_ts ux um ao)[4]? = some (ux.2 4, .int) := rfl
theorem pe_46 : (mj_ws qx qm qo ux um ao)[9]? = some (ux.1 8, .inl (ux.2 5, 6, .inl (fun _ => 0))) := rfl
theorem te_46 : (mj_ts ux um ao)[5]? = some (ux.2 5, .int) := rfl
theorem pe_47 : (mj_ws qx qm qo ux um ao)[10]? = some (ux.1 9, .inl (ux.2 6, 6, .inl (fun _ => 0))) := rfl
theorem te_47 : (mj_ts ux um ao)[6]? = some (ux.2 6, .int) := rfl
theorem pe_48 : (mj_ws qx qm qo ux um ao)[48]? = some (qm, .inr (12, [.int 0, .ref (um.1 0), .int 0, .int 0, .int 0, .int 0, .ref (um.1 1), .ref (um.1 2), .ref (um.1 3), .ref (um.1 4), .ref (um.1 5), .ref (um.1 6), .ref (um.1 7), .int 0, .int 0, .ref (um.1 8), .ref (um.1 9), .ref (um.1 10), .ref (um.1 11), .ref (um.1 12), .int 0, .int 0, .ref (um.1 13), .ref (um.1 14), .ref (um.1 15), .int 0, .int 0, .ref (um.1 16), .ref (um.1 17), .int (-1), .int 2, .ref (um.1 18), .int 0, .long 0, .ref (um.1 19), .int 0, .int 0, .ref (um.1 20), .ref (um.1 21), .ref (um.1 22), .int 0, .int 0, .int 0, .ref (um.1 23), .int 0])) := rfl
theorem te_48 : (mj_ts ux um ao)[34]? = some (ux.2 34, .int) := rfl
theorem pe_49 : (mj_ws qx qm qo ux um ao)[49]? = some (um.1 0, .inl (um.2 0, 240, .inl (fun _ => 0))) := rfl
theorem te_49 : (mj_ts ux um ao)[35]? = some (um.2 0, .int) := rfl
theorem pe_50 : (mj_ws qx qm qo ux um ao)[50]? = some (um.1 1, .inl (um.2 1, 2600, .inl (fun _ => 0))) := rfl
theorem te_50 : (mj_ts ux um ao)[36]? = some (um.2 1, .int) := rfl
theorem pe_51 : (mj_ws qx qm qo ux um ao)[51]? = some (um.1 2, .inl (um.2 2, 2600, .inl (fun _ => 0))) := rfl
theorem te_51 : (mj_ts ux um ao)[37]? = some (um.2 2, .int) := rfl
theorem pe_52 : (mj_ws qx qm qo ux um ao)[52]? = some (um.1 3, .inl (um.2 3, 5, .inl (fun _ => 0))) := rfl
theorem te_52 : (mj_ts ux um ao)[38]? = some (um.2 3, .int) := rfl
theorem pe_53 : (mj_ws qx qm qo ux um ao)[53]? = some (um.1 4, .inl (um.2 4, 5, .inl (fun _ => 0))) := rfl
theorem te_53 : (mj_ts ux um ao)[39]? = some (um.2 4, .int) := rfl
theorem pe_54 : (mj_ws qx qm qo ux um ao)[54]? = some (um.1 5, .inl (um.2 5, 700, .inl (fun _ => 0))) := rfl
theorem te_54 : (mj_ts ux um ao)[40]? = some (um.2 5, .int) := rfl
theorem pe_55 : (mj_ws qx qm qo ux um ao)[55]? = some (um.1 6, .inl (um.2 6, 700, .inl (fun _ => 0))) := rfl
theorem te_55 : (mj_ts ux um ao)[41]? = some (um.2 6, .int) := rfl
theorem pe_56 : (mj_ws qx qm qo ux um ao)[56]? = some (um.1 7, .inl (um.2 7, 700, .inl (fun _ => 0))) := rfl
theorem te_56 : (mj_ts ux um ao)[42]? = some (um.2 7, .int) := rfl
theorem pe_57 : (mj_ws qx qm qo ux um ao)[57]? = some (um.1 8, .inl (um.2 8, 6, .inl (fun _ => 0))) := rfl
theorem te_57 : (mj_ts ux um ao)[43]? = some (um.2 8, .int) := rfl
theorem pe_58 : (mj_ws qx qm qo ux um ao)[58]? = some (um.1 9, .inl (um.2 9, 80, .inl (fun _ => 0))) := rfl
theorem te_58 : (mj_ts ux um ao)[44]? = some (um.2 9, .int) := rfl
theorem pe_59 : (mj_ws qx qm qo ux um ao)[59]? = some (um.1 10, .inl (um.2 10, 4, .inl (fun _ => 0))) := rfl
theorem te_59 : (mj_ts ux um ao)[45]? = some (um.2 10, .int) := rfl
theorem pe_60 : (mj_ws qx qm qo ux um ao)[60]? = some (um.1 11, .inl (um.2 11, 18, .inl (fun _ => 0))) := rfl
theorem te_60 : (mj_ts ux um ao)[46]? = some (um.2 11, .int) := rfl
theorem pe_61 : (mj_ws qx qm qo ux um ao)[61]? = some (um.1 12, .inl (um.2 12, 18, .inl (fun _ => 0))) := rfl
theorem te_61 : (mj_ts ux um ao)[47]? = some (um.2 12, .int) := rfl
theorem pe_62 : (mj_ws qx qm qo ux um ao)[62]? = some (um.1 13, .inl (um.2 13, 4, .inl (fun _ => 0))) := rfl
theorem te_62 : (mj_ts ux um ao)[48]? = some (um.2 13, .int) := rfl
theorem pe_63 : (mj_ws qx qm qo ux um ao)[63]? = some (um.1 14, .inl (um.2 14, 18, .inl (fun _ => 0))) := rfl
theorem te_63 : (mj_ts ux um ao)[49]? = some (um.2 14, .int) := rfl
theorem pe_64 : (mj_ws qx qm qo ux um ao)[64]? = some (um.1 15, .inl (um.2 15, 18, .inl (fun _ => 0))) := rfl
theorem te_64 : (mj_ts ux um ao)[50]? = some (um.2 15, .int) := rfl
theorem pe_65 : (mj_ws qx qm qo ux um ao)[65]? = some (um.1 16, .inl (um.2 16, 229, .inl (fun _ => 0))) := rfl
theorem te_65 : (mj_ts ux um ao)[51]? = some (um.2 16, .int) := rfl
theorem pe_66 : (mj_ws qx qm qo ux um ao)[66]? = some (um.1 17, .inl (um.2 17, 5, .inl (fun _ => 0))) := rfl
theorem te_66 : (mj_ts ux um ao)[52]? = some (um.2 17, .int) := rfl
theorem pe_67 : (mj_ws qx qm qo ux um ao)[67]? = some (um.1 18, .inl (um.2 18, 9160, .inl (fun _ => 0))) := rfl
theorem te_67 : (mj_ts ux um ao)[53]? = some (um.2 18, .int) := rfl
theorem pe_68 : (mj_ws qx qm qo ux um ao)[68]? = some (um.1 19, .inl (um.2 19, 144, .inl (fun _ => 0))) := rfl
theorem te_68 : (mj_ts ux um ao)[54]? = some (um.2 19, .int) := rfl
theorem pe_69 : (mj_ws qx qm qo ux um ao)[69]? = some (um.1 20, .inl (um.2 20, 10, .inl (fun _ => 0))) := rfl
theorem te_69 : (mj_ts ux um ao)[55]? = some (um.2 20, .int) := rfl
theorem pe_70 : (mj_ws qx qm qo ux um ao)[70]? = some (um.1 21, .inl (um.2 21, 10, .inl (fun _ => 0))) := rfl
theorem te_70 : (mj_ts ux um ao)[56]? = some (um.2 21, .int) := rfl
theorem pe_71 : (mj_ws qx qm qo ux um ao)[71]? = some (um.1 22, .inl (um.2 22, 10, .inl (fun _ => 0))) := rfl
theorem te_71 : (mj_ts ux um ao)[57]? = some (um.2 22, .boolean) := rfl
theorem pe_72 : (mj_ws qx qm qo ux um ao)[72]? = some (um.1 23, .inl (um.2 23, 229, .inl (fun _ => 0))) := rfl
theorem te_72 : (mj_ts ux um ao)[58]? = some (um.2 23, .int) := rfl
theorem pe_73 : (mj_ws qx qm qo ux um ao)[73]? = some (qo, .inl (ao, 1, .inr (.inl (fun _ => 0)))) := rfl
theorem te_73 : (mj_ts ux um ao)[59]? = some (ao, .long) := rfl
end Perm
def mj_pl0 : List Nat := [0, 47, 1, 2, 3, 11, 12, 13, 14, 15, 16, 17, 18, 19, 20, 21, 22, 23, 24, 25, 26, 27, 28, 29, 30, 31, 32, 33, 34, 35, 36, 37, 38, 39, 40, 41, 42, 43, 44, 45, 46, 4, 5, 6, 7, 8, 9, 10, 48, 49, 50, 51, 52, 53, 54, 55, 56, 57, 58, 59, 60, 61, 62, 63, 64, 65, 66, 67, 68, 69, 70, 71, 72, 73]
theorem mj_plnd : ∀ i j : Fin 74, mj_pl0[(i : Nat)]? = mj_pl0[(j : Nat)]? → i = j := by decide +kernel
theorem mj_c74 (P : Nat → Prop) (h0 : P 0) (h1 : P 1) (h2 : P 2) (h3 : P 3) (h4 : P 4) (h5 : P 5) (h6 : P 6) (h7 : P 7) (h8 : P 8) (h9 : P 9) (h10 : P 10) (h11 : P 11) (h12 : P 12) (h13 : P 13) (h14 : P 14) (h15 : P 15) (h16 : P 16) (h17 : P 17) (h18 : P 18) (h19 : P 19) (h20 : P 20) (h21 : P 21) (h22 : P 22) (h23 : P 23) (h24 : P 24) (h25 : P 25) (h26 : P 26) (h27 : P 27) (h28 : P 28) (h29 : P 29) (h30 : P 30) (h31 : P 31) (h32 : P 32) (h33 : P 33) (h34 : P 34) (h35 : P 35) (h36 : P 36) (h37 : P 37) (h38 : P 38) (h39 : P 39) (h40 : P 40) (h41 : P 41) (h42 : P 42) (h43 : P 43) (h44 : P 44) (h45 : P 45) (h46 : P 46) (h47 : P 47) (h48 : P 48) (h49 : P 49) (h50 : P 50) (h51 : P 51) (h52 : P 52) (h53 : P 53) (h54 : P 54) (h55 : P 55) (h56 : P 56) (h57 : P 57) (h58 : P 58) (h59 : P 59) (h60 : P 60) (h61 : P 61) (h62 : P 62) (h63 : P 63) (h64 : P 64) (h65 : P 65) (h66 : P 66) (h67 : P 67) (h68 : P 68) (h69 : P 69) (h70 : P 70) (h71 : P 71) (h72 : P 72) (h73 : P 73) : ∀ k, k < 74 → P k
  | 0, _ => h0
  | 1, _ => h1
  | 2, _ => h2
  | 3, _ => h3
  | 4, _ => h4
  | 5, _ => h5
  | 6, _ => h6
  | 7, _ => h7
  | 8, _ => h8
  | 9, _ => h9
  | 10, _ => h10
  | 11, _ => h11
  | 12, _ => h12
  | 13, _ => h13
  | 14, _ => h14
  | 15, _ => h15
  | 16, _ => h16
  | 17, _ => h17
  | 18, _ => h18
  | 19, _ => h19
  | 20, _ => h20
  | 21, _ => h21
  | 22, _ => h22
  | 23, _ => h23
  | 24, _ => h24
  | 25, _ => h25
  | 26, _ => h26
  | 27, _ => h27
  | 28, _ => h28
  | 29, _ => h29
  | 30, _ => h30
  | 31, _ => h31
  | 32, _ => h32
  | 33, _ => h33
  | 34, _ => h34
  | 35, _ => h35
  | 36, _ => h36
  | 37, _ => h37
  | 38, _ => h38
  | 39, _ => h39
  | 40, _ => h40
  | 41, _ => h41
  | 42, _ => h42
  | 43, _ => h43
  | 44, _ => h44
  | 45, _ => h45
  | 46, _ => h46
  | 47, _ => h47
  | 48, _ => h48
  | 49, _ => h49
  | 50, _ => h50
  | 51, _ => h51
  | 52, _ => h52
  | 53, _ => h53
  | 54, _ => h54
  | 55, _ => h55
  | 56, _ => h56
  | 57, _ => h57
  | 58, _ => h58
  | 59, _ => h59
  | 60, _ => h60
  | 61, _ => h61
  | 62, _ => h62
  | 63, _ => h63
  | 64, _ => h64
  | 65, _ => h65
  | 66, _ => h66
  | 67, _ => h67
  | 68, _ => h68
  | 69, _ => h69
  | 70, _ => h70
  | 71, _ => h71
  | 72, _ => h72
  | 73, _ => h73
  | k + 74, h => absurd h (by omega)
theorem mj_cat00 : mj_cat 0 0 = 0 := by decide +kernel
section WorldP
variable {l : Launch} {D : va_G} {qx qm qo B : Nat} {ux um : mj_U} {ao : ClassId} {s0 s1 s2 s3 s4 : Nat} {H : Heap} {s : State}
theorem wp_0 (hP : va_P D mj_cl (mj_ws qx qm qo ux um ao) H) : ∀ q, (mj_w (l, D, mj_ad qx qm qo ux um s0 s1 s2 s3 s4, mj_ca ux um ao, B) mj_M0)[0]? = some q → va_at D mj_cl q H := by
  intro q hq
  rw [mj_w_at _ mj_M0 sh_0] at hq
  rw [← Option.some.inj hq]
  exact hP _ _ (pe_0 qx qm qo ux um ao)
theorem wk_0 (hK : va_K D mj_cl (mj_ts ux um ao) s) : ∀ q, (mj_ty (l, D, mj_ad qx qm qo ux um s0 s1 s2 s3 s4, mj_ca ux um ao, B))[0]? = some q → ArrOfT s q.1 q.2 ∧ va_RA s q.1 q.2 := by
  intro q hq
  rw [mj_ty_at _ sh_0] at hq
  rw [← Option.some.inj hq]
  exact hK.2 _ _ (te_0 ux um ao)
theorem wp_1 (hP : va_P D mj_cl (mj_ws qx qm qo ux um ao) H) : ∀ q, (mj_w (l, D, mj_ad qx qm qo ux um s0 s1 s2 s3 s4, mj_ca ux um ao, B) mj_M0)[1]? = some q → va_at D mj_cl q H := by
  intro q hq
  rw [mj_w_at _ mj_M0 sh_1] at hq
  rw [← Option.some.inj hq]
  exact hP _ _ (pe_1 qx qm qo ux um ao)
theorem wk_1 (hK : va_K D mj_cl (mj_ts ux um ao) s) : ∀ q, (mj_ty (l, D, mj_ad qx qm qo ux um s0 s1 s2 s3 s4, mj_ca ux um ao, B))[1]? = some q → ArrOfT s q.1 q.2 ∧ va_RA s q.1 q.2 := by
  intro q hq
  rw [mj_ty_at _ sh_1] at hq
  rw [← Option.some.inj hq]
  exact hK.2 _ _ (te_1 ux um ao)
theorem wp_2 (hP : va_P D mj_cl (mj_ws qx qm qo ux um ao) H) : ∀ q, (mj_w (l, D, mj_ad qx qm qo ux um s0 s1 s2 s3 s4, mj_ca ux um ao, B) mj_M0)[2]? = some q → va_at D mj_cl q H := by
  intro q hq
  rw [mj_w_at _ mj_M0 sh_2] at hq
  rw [← Option.some.inj hq]
  exact hP _ _ (pe_2 qx qm qo ux um ao)
theorem wk_2 (hK : va_K D mj_cl (mj_ts ux um ao) s) : ∀ q, (mj_ty (l, D, mj_ad qx qm qo ux um s0 s1 s2 s3 s4, mj_ca ux um ao, B))[2]? = some q → ArrOfT s q.1 q.2 ∧ va_RA s q.1 q.2 := by
  intro q hq
  rw [mj_ty_at _ sh_2] at hq
  rw [← Option.some.inj hq]
  exact hK.2 _ _ (te_2 ux um ao)
theorem wp_3 (hP : va_P D mj_cl (mj_ws qx qm qo ux um ao) H) : ∀ q, (mj_w (l, D, mj_ad qx qm qo ux um s0 s1 s2 s3 s4, mj_ca ux um ao, B) mj_M0)[3]? = some q → va_at D mj_cl q H := by
  intro q hq
  rw [mj_w_at _ mj_M0 sh_3] at hq
  rw [← Option.some.inj hq]
  exact hP _ _ (pe_3 qx qm qo ux um ao)
theorem wk_3 (hK : va_K D mj_cl (mj_ts ux um ao) s) : ∀ q, (mj_ty (l, D, mj_ad qx qm qo ux um s0 s1 s2 s3 s4, mj_ca ux um ao, B))[3]? = some q → ArrOfT s q.1 q.2 ∧ va_RA s q.1 q.2 := by
  intro q hq
  rw [mj_ty_at _ sh_3] at hq
  rw [← Option.some.inj hq]
  exact hK.2 _ _ (te_3 ux um ao)
theorem wp_4 (hP : va_P D mj_cl (mj_ws qx qm qo ux um ao) H) : ∀ q, (mj_w (l, D, mj_ad qx qm qo ux um s0 s1 s2 s3 s4, mj_ca ux um ao, B) mj_M0)[4]? = some q → va_at D mj_cl q H := by
  intro q hq
  rw [mj_w_at _ mj_M0 sh_4] at hq
  rw [← Option.some.inj hq]
  exact hP _ _ (pe_4 qx qm qo ux um ao)
theorem wk_4 (hK : va_K D mj_cl (mj_ts ux um ao) s) : ∀ q, (mj_ty (l, D, mj_ad qx qm qo ux um s0 s1 s2 s3 s4, mj_ca ux um ao, B))[4]? = some q → ArrOfT s q.1 q.2 ∧ va_RA s q.1 q.2 := by
  intro q hq
  rw [mj_ty_at _ sh_4] at hq
  rw [← Option.some.inj hq]
  exact hK.2 _ _ (te_4 ux um ao)
theorem wp_5 (hP : va_P D mj_cl (mj_ws qx qm qo ux um ao) H) : ∀ q, (mj_w (l, D, mj_ad qx qm qo ux um s0 s1 s2 s3 s4, mj_ca ux um ao, B) mj_M0)[5]? = some q → va_at D mj_cl q H := by
  intro q hq
  rw [mj_w_at _ mj_M0 sh_5] at hq
  rw [← Option.some.inj hq]
  exact hP _ _ (pe_5 qx qm qo ux um ao)
theorem wk_5 (hK : va_K D mj_cl (mj_ts ux um ao) s) : ∀ q, (mj_ty (l, D, mj_ad qx qm qo ux um s0 s1 s2 s3 s4, mj_ca ux um ao, B))[5]? = some q → ArrOfT s q.1 q.2 ∧ va_RA s q.1 q.2 := by
  intro q hq
  rw [mj_ty_at _ sh_5] at hq
  rw [← Option.some.inj hq]
  exact hK.2 _ _ (te_5 ux um ao)
theorem wp_6 (hP : va_P D mj_cl (mj_ws qx qm qo ux um ao) H) : ∀ q, (mj_w (l, D, mj_ad qx qm qo ux um s0 s1 s2 s3 s4, mj_ca ux um ao, B) mj_M0)[6]? = some q → va_at D mj_cl q H := by
  intro q hq
  rw [mj_w_at _ mj_M0 sh_6] at hq
  rw [← Option.some.inj hq]
  exact hP _ _ (pe_6 qx qm qo ux um ao)
theorem wk_6 (hK : va_K D mj_cl (mj_ts ux um ao) s) : ∀ q, (mj_ty (l, D, mj_ad qx qm qo ux um s0 s1 s2 s3 s4, mj_ca ux um ao, B))[6]? = some q → ArrOfT s q.1 q.2 ∧ va_RA s q.1 q.2 := by
  intro q hq
  rw [mj_ty_at _ sh_6] at hq
  rw [← Option.some.inj hq]
  exact hK.2 _ _ (te_6 ux um ao)
theorem wp_7 (hP : va_P D mj_cl (mj_ws qx qm qo ux um ao) H) : ∀ q, (mj_w (l, D, mj_ad qx qm qo ux um s0 s1 s2 s3 s4, mj_ca ux um ao, B) mj_M0)[7]? = some q → va_at D mj_cl q H := by
  intro q hq
  rw [mj_w_at _ mj_M0 sh_7] at hq
  rw [← Option.some.inj hq]
  exact hP _ _ (pe_7 qx qm qo ux um ao)
theorem wk_7 (hK : va_K D mj_cl (mj_ts ux um ao) s) : ∀ q, (mj_ty (l, D, mj_ad qx qm qo ux um s0 s1 s2 s3 s4, mj_ca ux um ao, B))[7]? = some q → ArrOfT s q.1 q.2 ∧ va_RA s q.1 q.2 := by
  intro q hq
  rw [mj_ty_at _ sh_7] at hq
  rw [← Option.some.inj hq]
  exact hK.2 _ _ (te_7 ux um ao)
theorem wp_8 (hP : va_P D mj_cl (mj_ws qx qm qo ux um ao) H) : ∀ q, (mj_w (l, D, mj_ad qx qm qo ux um s0 s1 s2 s3 s4, mj_ca ux um ao, B) mj_M0)[8]? = some q → va_at D mj_cl q H := by
  intro q hq
  rw [mj_w_at _ mj_M0 sh_8] at hq
  rw [← Option.some.inj hq]
  exact hP _ _ (pe_8 qx qm qo ux um ao)
theorem wk_8 (hK : va_K D mj_cl (mj_ts ux um ao) s) : ∀ q, (mj_ty (l, D, mj_ad qx qm qo ux um s0 s1 s2 s3 s4, mj_ca ux um ao, B))[8]? = some q → ArrOfT s q.1 q.2 ∧ va_RA s q.1 q.2 := by
  intro q hq
  rw [mj_ty_at _ sh_8] at hq
  rw [← Option.some.inj hq]
  exact hK.2 _ _ (te_8 ux um ao)
theorem wp_9 (hP : va_P D mj_cl (mj_ws qx qm qo ux um ao) H) : ∀ q, (mj_w (l, D, mj_ad qx qm qo ux um s0 s1 s2 s3 s4, mj_ca ux um ao, B) mj_M0)[9]? = some q → va_at D mj_cl q H := by
  intro q hq
  rw [mj_w_at _ mj_M0 sh_9] at hq
  rw [← Option.some.inj hq]
  exact hP _ _ (pe_9 qx qm qo ux um ao)
theorem wk_9 (hK : va_K D mj_cl (mj_ts ux um ao) s) : ∀ q, (mj_ty (l, D, mj_ad qx qm qo ux um s0 s1 s2 s3 s4, mj_ca ux um ao, B))[9]? = some q → ArrOfT s q.1 q.2 ∧ va_RA s q.1 q.2 := by
  intro q hq
  rw [mj_ty_at _ sh_9] at hq
  rw [← Option.some.inj hq]
  exact hK.2 _ _ (te_9 ux um ao)
theorem wp_10 (hP : va_P D mj_cl (mj_ws qx qm qo ux um ao) H) : ∀ q, (mj_w (l, D, mj_ad qx qm qo ux um s0 s1 s2 s3 s4, mj_ca ux um ao, B) mj_M0)[10]? = some q → va_at D mj_cl q H := by
  intro q hq
  rw [mj_w_at _ mj_M0 sh_10] at hq
  rw [← Option.some.inj hq]
  exact hP _ _ (pe_10 qx qm qo ux um ao)
theorem wk_10 (hK : va_K D mj_cl (mj_ts ux um ao) s) : ∀ q, (mj_ty (l, D, mj_ad qx qm qo ux um s0 s1 s2 s3 s4, mj_ca ux um ao, B))[10]? = some q → ArrOfT s q.1 q.2 ∧ va_RA s q.1 q.2 := by
  intro q hq
  rw [mj_ty_at _ sh_10] at hq
  rw [← Option.some.inj hq]
  exact hK.2 _ _ (te_10 ux um ao)
theorem wp_11 (hP : va_P D mj_cl (mj_ws qx qm qo ux um ao) H) : ∀ q, (mj_w (l, D, mj_ad qx qm qo ux um s0 s1 s2 s3 s4, mj_ca ux um ao, B) mj_M0)[11]? = some q → va_at D mj_cl q H := by
  intro q hq
  rw [mj_w_at _ mj_M0 sh_11] at hq
  rw [← Option.some.inj hq]
  exact hP _ _ (pe_11 qx qm qo ux um ao)
theorem wk_11 (hK : va_K D mj_cl (mj_ts ux um ao) s) : ∀ q, (mj_ty (l, D, mj_ad qx qm qo ux um s0 s1 s2 s3 s4, mj_ca ux um ao, B))[11]? = some q → ArrOfT s q.1 q.2 ∧ va_RA s q.1 q.2 := by
  intro q hq
  rw [mj_ty_at _ sh_11] at hq
  rw [← Option.some.inj hq]
  exact hK.2 _ _ (te_11 ux um ao)
theorem wp_12 (hP : va_P D mj_cl (mj_ws qx qm qo ux um ao) H) : ∀ q, (mj_w (l, D, mj_ad qx qm qo ux um s0 s1 s2 s3 s4, mj_ca ux um ao, B) mj_M0)[12]? = some q → va_at D mj_cl q H := by
  intro q hq
  rw [mj_w_at _ mj_M0 sh_12] at hq
  rw [← Option.some.inj hq]
  exact hP _ _ (pe_12 qx qm qo ux um ao)
theorem wk_12 (hK : va_K D mj_cl (mj_ts ux um ao) s) : ∀ q, (mj_ty (l, D, mj_ad qx qm qo ux um s0 s1 s2 s3 s4, mj_ca ux um ao, B))[12]? = some q → ArrOfT s q.1 q.2 ∧ va_RA s q.1 q.2 := by
  intro q hq
  rw [mj_ty_at _ sh_12] at hq
  rw [← Option.some.inj hq]
  exact hK.2 _ _ (te_12 ux um ao)
theorem wp_13 (hP : va_P D mj_cl (mj_ws qx qm qo ux um ao) H) : ∀ q, (mj_w (l, D, mj_ad qx qm qo ux um s0 s1 s2 s3 s4, mj_ca ux um ao, B) mj_M0)[13]? = some q → va_at D mj_cl q H := by
  intro q hq
  rw [mj_w_at _ mj_M0 sh_13] at hq
  rw [← Option.some.inj hq]
  exact hP _ _ (pe_13 qx qm qo ux um ao)
theorem wk_13 (hK : va_K D mj_cl (mj_ts ux um ao) s) : ∀ q, (mj_ty (l, D, mj_ad qx qm qo ux um s0 s1 s2 s3 s4, mj_ca ux um ao, B))[13]? = some q → ArrOfT s q.1 q.2 ∧ va_RA s q.1 q.2 := by
  intro q hq
  rw [mj_ty_at _ sh_13] at hq
  rw [← Option.some.inj hq]
  exact hK.2 _ _ (te_13 ux um ao)
theorem wp_14 (hP : va_P D mj_cl (mj_ws qx qm qo ux um ao) H) : ∀ q, (mj_w (l, D, mj_ad qx qm qo ux um s0 s1 s2 s3 s4, mj_ca ux um ao, B) mj_M0)[14]? = some q → va_at D mj_cl q H := by
  intro q hq
  rw [mj_w_at _ mj_M0 sh_14] at hq
  rw [← Option.some.inj hq]
  exact hP _ _ (pe_14 qx qm qo ux um ao)
theorem wk_14 (hK : va_K D mj_cl (mj_ts ux um ao) s) : ∀ q, (mj_ty (l, D, mj_ad qx qm qo ux um s0 s1 s2 s3 s4, mj_ca ux um ao, B))[14]? = some q → ArrOfT s q.1 q.2 ∧ va_RA s q.1 q.2 := by
  intro q hq
  rw [mj_ty_at _ sh_14] at hq
  rw [← Option.some.inj hq]
  exact hK.2 _ _ (te_14 ux um ao)
theorem wp_15 (hP : va_P D mj_cl (mj_ws qx qm qo ux um ao) H) : ∀ q, (mj_w (l, D, mj_ad qx qm qo ux um s0 s1 s2 s3 s4, mj_ca ux um ao, B) mj_M0)[15]? = some q → va_at D mj_cl q H := by
  intro q hq
  rw [mj_w_at _ mj_M0 sh_15] at hq
  rw [← Option.some.inj hq]
  exact hP _ _ (pe_15 qx qm qo ux um ao)
theorem wk_15 (hK : va_K D mj_cl (mj_ts ux um ao) s) : ∀ q, (mj_ty (l, D, mj_ad qx qm qo ux um s0 s1 s2 s3 s4, mj_ca ux um ao, B))[15]? = some q → ArrOfT s q.1 q.2 ∧ va_RA s q.1 q.2 := by
  intro q hq
  rw [mj_ty_at _ sh_15] at hq
  rw [← Option.some.inj hq]
  exact hK.2 _ _ (te_15 ux um ao)
theorem wp_16 (hP : va_P D mj_cl (mj_ws qx qm qo ux um ao) H) : ∀ q, (mj_w (l, D, mj_ad qx qm qo ux um s0 s1 s2 s3 s4, mj_ca ux um ao, B) mj_M0)[16]? = some q → va_at D mj_cl q H := by
  intro q hq
  rw [mj_w_at _ mj_M0 sh_16] at hq
  rw [← Option.some.inj hq]
  exact hP _ _ (pe_16 qx qm qo ux um ao)
theorem wk_16 (hK : va_K D mj_cl (mj_ts ux um ao) s) : ∀ q, (mj_ty (l, D, mj_ad qx qm qo ux um s0 s1 s2 s3 s4, mj_ca ux um ao, B))[16]? = some q → ArrOfT s q.1 q.2 ∧ va_RA s q.1 q.2 := by
  intro q hq
  rw [mj_ty_at _ sh_16] at hq
  rw [← Option.some.inj hq]
  exact hK.2 _ _ (te_16 ux um ao)
theorem wp_17 (hP : va_P D mj_cl (mj_ws qx qm qo ux um ao) H) : ∀ q, (mj_w (l, D, mj_ad qx qm qo ux um s0 s1 s2 s3 s4, mj_ca ux um ao, B) mj_M0)[17]? = some q → va_at D mj_cl q H := by
  intro q hq
  rw [mj_w_at _ mj_M0 sh_17] at hq
  rw [← Option.some.inj hq]
  exact hP _ _ (pe_17 qx qm qo ux um ao)
theorem wk_17 (hK : va_K D mj_cl (mj_ts ux um ao) s) : ∀ q, (mj_ty (l, D, mj_ad qx qm qo ux um s0 s1 s2 s3 s4, mj_ca ux um ao, B))[17]? = some q → ArrOfT s q.1 q.2 ∧ va_RA s q.1 q.2 := by
  intro q hq
  rw [mj_ty_at _ sh_17] at hq
  rw [← Option.some.inj hq]
  exact hK.2 _ _ (te_17 ux um ao)
theorem wp_18 (hP : va_P D mj_cl (mj_ws qx qm qo ux um ao) H) : ∀ q, (mj_w (l, D, mj_ad qx qm qo ux um s0 s1 s2 s3 s4, mj_ca ux um ao, B) mj_M0)[18]? = some q → va_at D mj_cl q H := by
  intro q hq
  rw [mj_w_at _ mj_M0 sh_18] at hq
  rw [← Option.some.inj hq]
  exact hP _ _ (pe_18 qx qm qo ux um ao)
theorem wk_18 (hK : va_K D mj_cl (mj_ts ux um ao) s) : ∀ q, (mj_ty (l, D, mj_ad qx qm qo ux um s0 s1 s2 s3 s4, mj_ca ux um ao, B))[18]? = some q → ArrOfT s q.1 q.2 ∧ va_RA s q.1 q.2 := by
  intro q hq
  rw [mj_ty_at _ sh_18] at hq
  rw [← Option.some.inj hq]
  exact hK.2 _ _ (te_18 ux um ao)
theorem wp_19 (hP : va_P D mj_cl (mj_ws qx qm qo ux um ao) H) : ∀ q, (mj_w (l, D, mj_ad qx qm qo ux um s0 s1 s2 s3 s4, mj_ca ux um ao, B) mj_M0)[19]? = some q → va_at D mj_cl q H := by
  intro q hq
  rw [mj_w_at _ mj_M0 sh_19] at hq
  rw [← Option.some.inj hq]
  exact hP _ _ (pe_19 qx qm qo ux um ao)
theorem wk_19 (hK : va_K D mj_cl (mj_ts ux um ao) s) : ∀ q, (mj_ty (l, D, mj_ad qx qm qo ux um s0 s1 s2 s3 s4, mj_ca ux um ao, B))[19]? = some q → ArrOfT s q.1 q.2 ∧ va_RA s q.1 q.2 := by
  intro q hq
  rw [mj_ty_at _ sh_19] at hq
  rw [← Option.some.inj hq]
  exact hK.2 _ _ (te_19 ux um ao)
theorem wp_20 (hP : va_P D mj_cl (mj_ws qx qm qo ux um ao) H) : ∀ q, (mj_w (l, D, mj_ad qx qm qo ux um s0 s1 s2 s3 s4, mj_ca ux um ao, B) mj_M0)[20]? = some q → va_at D mj_cl q H := by
  intro q hq
  rw [mj_w_at _ mj_M0 sh_20] at hq
  rw [← Option.some.inj hq]
  exact hP _ _ (pe_20 qx qm qo ux um ao)
theorem wk_20 (hK : va_K D mj_cl (mj_ts ux um ao) s) : ∀ q, (mj_ty (l, D, mj_ad qx qm qo ux um s0 s1 s2 s3 s4, mj_ca ux um ao, B))[20]? = some q → ArrOfT s q.1 q.2 ∧ va_RA s q.1 q.2 := by
  intro q hq
  rw [mj_ty_at _ sh_20] at hq
  rw [← Option.some.inj hq]
  exact hK.2 _ _ (te_20 ux um ao)
theorem wp_21 (hP : va_P D mj_cl (mj_ws qx qm qo ux um ao) H) : ∀ q, (mj_w (l, D, mj_ad qx qm qo ux um s0 s1 s2 s3 s4, mj_ca ux um ao, B) mj_M0)[21]? = some q → va_at D mj_cl q H := by
  intro q hq
  rw [mj_w_at _ mj_M0 sh_21] at hq
  rw [← Option.some.inj hq]
  exact hP _ _ (pe_21 qx qm qo ux um ao)
theorem wk_21 (hK : va_K D mj_cl (mj_ts ux um ao) s) : ∀ q, (mj_ty (l, D, mj_ad qx qm qo ux um s0 s1 s2 s3 s4, mj_ca ux um ao, B))[21]? = some q → ArrOfT s q.1 q.2 ∧ va_RA s q.1 q.2 := by
  intro q hq
  rw [mj_ty_at _ sh_21] at hq
  rw [← Option.some.inj hq]
  exact hK.2 _ _ (te_21 ux um ao)
theorem wp_22 (hP : va_P D mj_cl (mj_ws qx qm qo ux um ao) H) : ∀ q, (mj_w (l, D, mj_ad qx qm qo ux um s0 s1 s2 s3 s4, mj_ca ux um ao, B) mj_M0)[22]? = some q → va_at D mj_cl q H := by
  intro q hq
  rw [mj_w_at _ mj_M0 sh_22] at hq
  rw [← Option.some.inj hq]
  exact hP _ _ (pe_22 qx qm qo ux um ao)
theorem wk_22 (hK : va_K D mj_cl (mj_ts ux um ao) s) : ∀ q, (mj_ty (l, D, mj_ad qx qm qo ux um s0 s1 s2 s3 s4, mj_ca ux um ao, B))[22]? = some q → ArrOfT s q.1 q.2 ∧ va_RA s q.1 q.2 := by
  intro q hq
  rw [mj_ty_at _ sh_22] at hq
  rw [← Option.some.inj hq]
  exact hK.2 _ _ (te_22 ux um ao)
theorem wp_23 (hP : va_P D mj_cl (mj_ws qx qm qo ux um ao) H) : ∀ q, (mj_w (l, D, mj_ad qx qm qo ux um s0 s1 s2 s3 s4, mj_ca ux um ao, B) mj_M0)[23]? = some q → va_at D mj_cl q H := by
  intro q hq
  rw [mj_w_at _ mj_M0 sh_23] at hq
  rw [← Option.some.inj hq]
  exact hP _ _ (pe_23 qx qm qo ux um ao)
theorem wk_23 (hK : va_K D mj_cl (mj_ts ux um ao) s) : ∀ q, (mj_ty (l, D, mj_ad qx qm qo ux um s0 s1 s2 s3 s4, mj_ca ux um ao, B))[23]? = some q → ArrOfT s q.1 q.2 ∧ va_RA s q.1 q.2 := by
  intro q hq
  rw [mj_ty_at _ sh_23] at hq
  rw [← Option.some.inj hq]
  exact hK.2 _ _ (te_23 ux um ao)
theorem wp_24 (hP : va_P D mj_cl (mj_ws qx qm qo ux um ao) H) : ∀ q, (mj_w (l, D, mj_ad qx qm qo ux um s0 s1 s2 s3 s4, mj_ca ux um ao, B) mj_M0)[24]? = some q → va_at D mj_cl q H := by
  intro q hq
  rw [mj_w_at _ mj_M0 sh_24] at hq
  rw [← Option.some.inj hq]
  exact hP _ _ (pe_24 qx qm qo ux um ao)
theorem wk_24 (hK : va_K D mj_cl (mj_ts ux um ao) s) : ∀ q, (mj_ty (l, D, mj_ad qx qm qo ux um s0 s1 s2 s3 s4, mj_ca ux um ao, B))[24]? = some q → ArrOfT s q.1 q.2 ∧ va_RA s q.1 q.2 := by
  intro q hq
  rw [mj_ty_at _ sh_24] at hq
  rw [← Option.some.inj hq]
  exact hK.2 _ _ (te_24 ux um ao)
theorem wp_25 (hP : va_P D mj_cl (mj_ws qx qm qo ux um ao) H) : ∀ q, (mj_w (l, D, mj_ad qx qm qo ux um s0 s1 s2 s3 s4, mj_ca ux um ao, B) mj_M0)[25]? = some q → va_at D mj_cl q H := by
  intro q hq
  rw [mj_w_at _ mj_M0 sh_25] at hq
  rw [← Option.some.inj hq]
  exact hP _ _ (pe_25 qx qm qo ux um ao)
theorem wk_25 (hK : va_K D mj_cl (mj_ts ux um ao) s) : ∀ q, (mj_ty (l, D, mj_ad qx qm qo ux um s0 s1 s2 s3 s4, mj_ca ux um ao, B))[25]? = some q → ArrOfT s q.1 q.2 ∧ va_RA s q.1 q.2 := by
  intro q hq
  rw [mj_ty_at _ sh_25] at hq
  rw [← Option.some.inj hq]
  exact hK.2 _ _ (te_25 ux um ao)
theorem wp_26 (hP : va_P D mj_cl (mj_ws qx qm qo ux um ao) H) : ∀ q, (mj_w (l, D, mj_ad qx qm qo ux um s0 s1 s2 s3 s4, mj_ca ux um ao, B) mj_M0)[26]? = some q → va_at D mj_cl q H := by
  intro q hq
  rw [mj_w_at _ mj_M0 sh_26] at hq
  rw [← Option.some.inj hq]
  exact hP _ _ (pe_26 qx qm qo ux um ao)
theorem wk_26 (hK : va_K D mj_cl (mj_ts ux um ao) s) : ∀ q, (mj_ty (l, D, mj_ad qx qm qo ux um s0 s1 s2 s3 s4, mj_ca ux um ao, B))[26]? = some q → ArrOfT s q.1 q.2 ∧ va_RA s q.1 q.2 := by
  intro q hq
  rw [mj_ty_at _ sh_26] at hq
  rw [← Option.some.inj hq]
  exact hK.2 _ _ (te_26 ux um ao)
theorem wp_27 (hP : va_P D mj_cl (mj_ws qx qm qo ux um ao) H) : ∀ q, (mj_w (l, D, mj_ad qx qm qo ux um s0 s1 s2 s3 s4, mj_ca ux um ao, B) mj_M0)[27]? = some q → va_at D mj_cl q H := by
  intro q hq
  rw [mj_w_at _ mj_M0 sh_27] at hq
  rw [← Option.some.inj hq]
  exact hP _ _ (pe_27 qx qm qo ux um ao)
theorem wk_27 (hK : va_K D mj_cl (mj_ts ux um ao) s) : ∀ q, (mj_ty (l, D, mj_ad qx qm qo ux um s0 s1 s2 s3 s4, mj_ca ux um ao, B))[27]? = some q → ArrOfT s q.1 q.2 ∧ va_RA s q.1 q.2 := by
  intro q hq
  rw [mj_ty_at _ sh_27] at hq
  rw [← Option.some.inj hq]
  exact hK.2 _ _ (te_27 ux um ao)
theorem wp_28 (hP : va_P D mj_cl (mj_ws qx qm qo ux um ao) H) : ∀ q, (mj_w (l, D, mj_ad qx qm qo ux um s0 s1 s2 s3 s4, mj_ca ux um ao, B) mj_M0)[28]? = some q → va_at D mj_cl q H := by
  intro q hq
  rw [mj_w_at _ mj_M0 sh_28] at hq
  rw [← Option.some.inj hq]
  exact hP _ _ (pe_28 qx qm qo ux um ao)
theorem wk_28 (hK : va_K D mj_cl (mj_ts ux um ao) s) : ∀ q, (mj_ty (l, D, mj_ad qx qm qo ux um s0 s1 s2 s3 s4, mj_ca ux um ao, B))[28]? = some q → ArrOfT s q.1 q.2 ∧ va_RA s q.1 q.2 := by
  intro q hq
  rw [mj_ty_at _ sh_28] at hq
  rw [← Option.some.inj hq]
  exact hK.2 _ _ (te_28 ux um ao)
theorem wp_29 (hP : va_P D mj_cl (mj_ws qx qm qo ux um ao) H) : ∀ q, (mj_w (l, D, mj_ad qx qm qo ux um s0 s1 s2 s3 s4, mj_ca ux um ao, B) mj_M0)[29]? = some q → va_at D mj_cl q H := by
  intro q hq
  rw [mj_w_at _ mj_M0 sh_29] at hq
  rw [← Option.some.inj hq]
  exact hP _ _ (pe_29 qx qm qo ux um ao)
theorem wk_29 (hK : va_K D mj_cl (mj_ts ux um ao) s) : ∀ q, (mj_ty (l, D, mj_ad qx qm qo ux um s0 s1 s2 s3 s4, mj_ca ux um ao, B))[29]? = some q → ArrOfT s q.1 q.2 ∧ va_RA s q.1 q.2 := by
  intro q hq
  rw [mj_ty_at _ sh_29] at hq
  rw [← Option.some.inj hq]
  exact hK.2 _ _ (te_29 ux um ao)
theorem wp_30 (hP : va_P D mj_cl (mj_ws qx qm qo ux um ao) H) : ∀ q, (mj_w (l, D, mj_ad qx qm qo ux um s0 s1 s2 s3 s4, mj_ca ux um ao, B) mj_M0)[30]? = some q → va_at D mj_cl q H := by
  intro q hq
  rw [mj_w_at _ mj_M0 sh_30] at hq
  rw [← Option.some.inj hq]
  exact hP _ _ (pe_30 qx qm qo ux um ao)
theorem wk_30 (hK : va_K D mj_cl (mj_ts ux um ao) s) : ∀ q, (mj_ty (l, D, mj_ad qx qm qo ux um s0 s1 s2 s3 s4, mj_ca ux um ao, B))[30]? = some q → ArrOfT s q.1 q.2 ∧ va_RA s q.1 q.2 := by
  intro q hq
  rw [mj_ty_at _ sh_30] at hq
  rw [← Option.some.inj hq]
  exact hK.2 _ _ (te_30 ux um ao)
theorem wp_31 (hP : va_P D mj_cl (mj_ws qx qm qo ux um ao) H) : ∀ q, (mj_w (l, D, mj_ad qx qm qo ux um s0 s1 s2 s3 s4, mj_ca ux um ao, B) mj_M0)[31]? = some q → va_at D mj_cl q H := by
  intro q hq
  rw [mj_w_at _ mj_M0 sh_31] at hq
  rw [← Option.some.inj hq]
  exact hP _ _ (pe_31 qx qm qo ux um ao)
theorem wk_31 (hK : va_K D mj_cl (mj_ts ux um ao) s) : ∀ q, (mj_ty (l, D, mj_ad qx qm qo ux um s0 s1 s2 s3 s4, mj_ca ux um ao, B))[31]? = some q → ArrOfT s q.1 q.2 ∧ va_RA s q.1 q.2 := by
  intro q hq
  rw [mj_ty_at _ sh_31] at hq
  rw [← Option.some.inj hq]
  exact hK.2 _ _ (te_31 ux um ao)
theorem wp_32 (hP : va_P D mj_cl (mj_ws qx qm qo ux um ao) H) : ∀ q, (mj_w (l, D, mj_ad qx qm qo ux um s0 s1 s2 s3 s4, mj_ca ux um ao, B) mj_M0)[32]? = some q → va_at D mj_cl q H := by
  intro q hq
  rw [mj_w_at _ mj_M0 sh_32] at hq
  rw [← Option.some.inj hq]
  exact hP _ _ (pe_32 qx qm qo ux um ao)
theorem wk_32 (hK : va_K D mj_cl (mj_ts ux um ao) s) : ∀ q, (mj_ty (l, D, mj_ad qx qm qo ux um s0 s1 s2 s3 s4, mj_ca ux um ao, B))[32]? = some q → ArrOfT s q.1 q.2 ∧ va_RA s q.1 q.2 := by
  intro q hq
  rw [mj_ty_at _ sh_32] at hq
  rw [← Option.some.inj hq]
  exact hK.2 _ _ (te_32 ux um ao)
theorem wp_33 (hP : va_P D mj_cl (mj_ws qx qm qo ux um ao) H) : ∀ q, (mj_w (l, D, mj_ad qx qm qo ux um s0 s1 s2 s3 s4, mj_ca ux um ao, B) mj_M0)[33]? = some q → va_at D mj_cl q H := by
  intro q hq
  rw [mj_w_at _ mj_M0 sh_33] at hq
  rw [← Option.some.inj hq]
  exact hP _ _ (pe_33 qx qm qo ux um ao)
theorem wk_33 (hK : va_K D mj_cl (mj_ts ux um ao) s) : ∀ q, (mj_ty (l, D, mj_ad qx qm qo ux um s0 s1 s2 s3 s4, mj_ca ux um ao, B))[33]? = some q → ArrOfT s q.1 q.2 ∧ va_RA s q.1 q.2 := by
  intro q hq
  rw [mj_ty_at _ sh_33] at hq
  rw [← Option.some.inj hq]
  exact hK.2 _ _ (te_33 ux um ao)
theorem wp_34 (hP : va_P D mj_cl (mj_ws qx qm qo ux um ao) H) : ∀ q, (mj_w (l, D, mj_ad qx qm qo ux um s0 s1 s2 s3 s4, mj_ca ux um ao, B) mj_M0)[34]? = some q → va_at D mj_cl q H := by
  intro q hq
  rw [mj_w_at _ mj_M0 sh_34] at hq
  rw [← Option.some.inj hq]
  exact hP _ _ (pe_34 qx qm qo ux um ao)
theorem wk_34 (hK : va_K D mj_cl (mj_ts ux um ao) s) : ∀ q, (mj_ty (l, D, mj_ad qx qm qo ux um s0 s1 s2 s3 s4, mj_ca ux um ao, B))[34]? = some q → ArrOfT s q.1 q.2 ∧ va_RA s q.1 q.2 := by
  intro q hq
  rw [mj_ty_at _ sh_34] at hq
  rw [← Option.some.inj hq]
  exact hK.2 _ _ (te_34 ux um ao)
theorem wp_35 (hP : va_P D mj_cl (mj_ws qx qm qo ux um ao) H) : ∀ q, (mj_w (l, D, mj_ad qx qm qo ux um s0 s1 s2 s3 s4, mj_ca ux um ao, B) mj_M0)[35]? = some q → va_at D mj_cl q H := by
  intro q hq
  rw [mj_w_at _ mj_M0 sh_35] at hq
  rw [← Option.some.inj hq]
  exact hP _ _ (pe_35 qx qm qo ux um ao)
theorem wk_35 (hK : va_K D mj_cl (mj_ts ux um ao) s) : ∀ q, (mj_ty (l, D, mj_ad qx qm qo ux um s0 s1 s2 s3 s4, mj_ca ux um ao, B))[35]? = some q → ArrOfT s q.1 q.2 ∧ va_RA s q.1 q.2 := by
  intro q hq
  rw [mj_ty_at _ sh_35] at hq
  rw [← Option.some.inj hq]
  exact hK.2 _ _ (te_35 ux um ao)
theorem wp_36 (hP : va_P D mj_cl (mj_ws qx qm qo ux um ao) H) : ∀ q, (mj_w (l, D, mj_ad qx qm qo ux um s0 s1 s2 s3 s4, mj_ca ux um ao, B) mj_M0)[36]? = some q → va_at D mj_cl q H := by
  intro q hq
  rw [mj_w_at _ mj_M0 sh_36] at hq
  rw [← Option.some.inj hq]
  exact hP _ _ (pe_36 qx qm qo ux um ao)
theorem wk_36 (hK : va_K D mj_cl (mj_ts ux um ao) s) : ∀ q, (mj_ty (l, D, mj_ad qx qm qo ux um s0 s1 s2 s3 s4, mj_ca ux um ao, B))[36]? = some q → ArrOfT s q.1 q.2 ∧ va_RA s q.1 q.2 := by
  intro q hq
  rw [mj_ty_at _ sh_36] at hq
  rw [← Option.some.inj hq]
  exact hK.2 _ _ (te_36 ux um ao)
theorem wp_37 (hP : va_P D mj_cl (mj_ws qx qm qo ux um ao) H) : ∀ q, (mj_w (l, D, mj_ad qx qm qo ux um s0 s1 s2 s3 s4, mj_ca ux um ao, B) mj_M0)[37]? = some q → va_at D mj_cl q H := by
  intro q hq
  rw [mj_w_at _ mj_M0 sh_37] at hq
  rw [← Option.some.inj hq]
  exact hP _ _ (pe_37 qx qm qo ux um ao)
theorem wk_37 (hK : va_K D mj_cl (mj_ts ux um ao) s) : ∀ q, (mj_ty (l, D, mj_ad qx qm qo ux um s0 s1 s2 s3 s4, mj_ca ux um ao, B))[37]? = some q → ArrOfT s q.1 q.2 ∧ va_RA s q.1 q.2 := by
  intro q hq
  rw [mj_ty_at _ sh_37] at hq
  rw [← Option.some.inj hq]
  exact hK.2 _ _ (te_37 ux um ao)
theorem wp_38 (hP : va_P D mj_cl (mj_ws qx qm qo ux um ao) H) : ∀ q, (mj_w (l, D, mj_ad qx qm qo ux um s0 s1 s2 s3 s4, mj_ca ux um ao, B) mj_M0)[38]? = some q → va_at D mj_cl q H := by
  intro q hq
  rw [mj_w_at _ mj_M0 sh_38] at hq
  rw [← Option.some.inj hq]
  exact hP _ _ (pe_38 qx qm qo ux um ao)
theorem wk_38 (hK : va_K D mj_cl (mj_ts ux um ao) s) : ∀ q, (mj_ty (l, D, mj_ad qx qm qo ux um s0 s1 s2 s3 s4, mj_ca ux um ao, B))[38]? = some q → ArrOfT s q.1 q.2 ∧ va_RA s q.1 q.2 := by
  intro q hq
  rw [mj_ty_at _ sh_38] at hq
  rw [← Option.some.inj hq]
  exact hK.2 _ _ (te_38 ux um ao)
theorem wp_39 (hP : va_P D mj_cl (mj_ws qx qm qo ux um ao) H) : ∀ q, (mj_w (l, D, mj_ad qx qm qo ux um s0 s1 s2 s3 s4, mj_ca ux um ao, B) mj_M0)[39]? = some q → va_at D mj_cl q H := by
  intro q hq
  rw [mj_w_at _ mj_M0 sh_39] at hq
  rw [← Option.some.inj hq]
  exact hP _ _ (pe_39 qx qm qo ux um ao)
theorem wk_39 (hK : va_K D mj_cl (mj_ts ux um ao) s) : ∀ q, (mj_ty (l, D, mj_ad qx qm qo ux um s0 s1 s2 s3 s4, mj_ca ux um ao, B))[39]? = some q → ArrOfT s q.1 q.2 ∧ va_RA s q.1 q.2 := by
  intro q hq
  rw [mj_ty_at _ sh_39] at hq
  rw [← Option.some.inj hq]
  exact hK.2 _ _ (te_39 ux um ao)
theorem wp_40 (hP : va_P D mj_cl (mj_ws qx qm qo ux um ao) H) : ∀ q, (mj_w (l, D, mj_ad qx qm qo ux um s0 s1 s2 s3 s4, mj_ca ux um ao, B) mj_M0)[40]? = some q → va_at D mj_cl q H := by
  intro q hq
  rw [mj_w_at _ mj_M0 sh_40] at hq
  rw [← Option.some.inj hq]
  exact hP _ _ (pe_40 qx qm qo ux um ao)
theorem wk_40 (hK : va_K D mj_cl (mj_ts ux um ao) s) : ∀ q, (mj_ty (l, D, mj_ad qx qm qo ux um s0 s1 s2 s3 s4, mj_ca ux um ao, B))[40]? = some q → ArrOfT s q.1 q.2 ∧ va_RA s q.1 q.2 := by
  intro q hq
  rw [mj_ty_at _ sh_40] at hq
  rw [← Option.some.inj hq]
  exact hK.2 _ _ (te_40 ux um ao)
theorem wp_41 (hP : va_P D mj_cl (mj_ws qx qm qo ux um ao) H) : ∀ q, (mj_w (l, D, mj_ad qx qm qo ux um s0 s1 s2 s3 s4, mj_ca ux um ao, B) mj_M0)[41]? = some q → va_at D mj_cl q H := by
  intro q hq
  rw [mj_w_at _ mj_M0 sh_41] at hq
  rw [← Option.some.inj hq]
  exact hP _ _ (pe_41 qx qm qo ux um ao)
theorem wk_41 (hK : va_K D mj_cl (mj_ts ux um ao) s) : ∀ q, (mj_ty (l, D, mj_ad qx qm qo ux um s0 s1 s2 s3 s4, mj_ca ux um ao, B))[41]? = some q → ArrOfT s q.1 q.2 ∧ va_RA s q.1 q.2 := by
  intro q hq
  rw [mj_ty_at _ sh_41] at hq
  rw [← Option.some.inj hq]
  exact hK.2 _ _ (te_41 ux um ao)
theorem wp_42 (hP : va_P D mj_cl (mj_ws qx qm qo ux um ao) H) : ∀ q, (mj_w (l, D, mj_ad qx qm qo ux um s0 s1 s2 s3 s4, mj_ca ux um ao, B) mj_M0)[42]? = some q → va_at D mj_cl q H := by
  intro q hq
  rw [mj_w_at _ mj_M0 sh_42] at hq
  rw [← Option.some.inj hq]
  exact hP _ _ (pe_42 qx qm qo ux um ao)
theorem wk_42 (hK : va_K D mj_cl (mj_ts ux um ao) s) : ∀ q, (mj_ty (l, D, mj_ad qx qm qo ux um s0 s1 s2 s3 s4, mj_ca ux um ao, B))[42]? = some q → ArrOfT s q.1 q.2 ∧ va_RA s q.1 q.2 := by
  intro q hq
  rw [mj_ty_at _ sh_42] at hq
  rw [← Option.some.inj hq]
  exact hK.2 _ _ (te_42 ux um ao)
theorem wp_43 (hP : va_P D mj_cl (mj_ws qx qm qo ux um ao) H) : ∀ q, (mj_w (l, D, mj_ad qx qm qo ux um s0 s1 s2 s3 s4, mj_ca ux um ao, B) mj_M0)[43]? = some q → va_at D mj_cl q H := by
  intro q hq
  rw [mj_w_at _ mj_M0 sh_43] at hq
  rw [← Option.some.inj hq]
  exact hP _ _ (pe_43 qx qm qo ux um ao)
theorem wk_43 (hK : va_K D mj_cl (mj_ts ux um ao) s) : ∀ q, (mj_ty (l, D, mj_ad qx qm qo ux um s0 s1 s2 s3 s4, mj_ca ux um ao, B))[43]? = some q → ArrOfT s q.1 q.2 ∧ va_RA s q.1 q.2 := by
  intro q hq
  rw [mj_ty_at _ sh_43] at hq
  rw [← Option.some.inj hq]
  exact hK.2 _ _ (te_43 ux um ao)
theorem wp_44 (hP : va_P D mj_cl (mj_ws qx qm qo ux um ao) H) : ∀ q, (mj_w (l, D, mj_ad qx qm qo ux um s0 s1 s2 s3 s4, mj_ca ux um ao, B) mj_M0)[44]? = some q → va_at D mj_cl q H := by
  intro q hq
  rw [mj_w_at _ mj_M0 sh_44] at hq
  rw [← Option.some.inj hq]
  exact hP _ _ (pe_44 qx qm qo ux um ao)
theorem wk_44 (hK : va_K D mj_cl (mj_ts ux um ao) s) : ∀ q, (mj_ty (l, D, mj_ad qx qm qo ux um s0 s1 s2 s3 s4, mj_ca ux um ao, B))[44]? = some q → ArrOfT s q.1 q.2 ∧ va_RA s q.1 q.2 := by
  intro q hq
  rw [mj_ty_at _ sh_44] at hq
  rw [← Option.some.inj hq]
  exact hK.2 _ _ (te_44 ux um ao)
theorem wp_45 (hP : va_P D mj_cl (mj_ws qx qm qo ux um ao) H) : ∀ q, (mj_w (l, D, mj_ad qx qm qo ux um s0 s1 s2 s3 s4, mj_ca ux um ao, B) mj_M0)[45]? = some q → va_at D mj_cl q H := by
  intro q hq
  rw [mj_w_at _ mj_M0 sh_45] at hq
  rw [← Option.some.inj hq]
  exact hP _ _ (pe_45 qx qm qo ux um ao)
theorem wk_45 (hK : va_K D mj_cl (mj_ts ux um ao) s) : ∀ q, (mj_ty (l, D, mj_ad qx qm qo ux um s0 s1 s2 s3 s4, mj_ca ux um ao, B))[45]? = some q → ArrOfT s q.1 q.2 ∧ va_RA s q.1 q.2 := by
  intro q hq
  rw [mj_ty_at _ sh_45] at hq
  rw [← Option.some.inj hq]
  exact hK.2 _ _ (te_45 ux um ao)
theorem wp_46 (hP : va_P D mj_cl (mj_ws qx qm qo ux um ao) H) : ∀ q, (mj_w (l, D, mj_ad qx qm qo ux um s0 s1 s2 s3 s4, mj_ca ux um ao, B) mj_M0)[46]? = some q → va_at D mj_cl q H := by
  intro q hq
  rw [mj_w_at _ mj_M0 sh_46] at hq
  rw [← Option.some.inj hq]
  exact hP _ _ (pe_46 qx qm qo ux um ao)
theorem wk_46 (hK : va_K D mj_cl (mj_ts ux um ao) s) : ∀ q, (mj_ty (l, D, mj_ad qx qm qo ux um s0 s1 s2 s3 s4, mj_ca ux um ao, B))[46]? = some q → ArrOfT s q.1 q.2 ∧ va_RA s q.1 q.2 := by
  intro q hq
  rw [mj_ty_at _ sh_46] at hq
  rw [← Option.some.inj hq]
  exact hK.2 _ _ (te_46 ux um ao)
theorem wp_47 (hP : va_P D mj_cl (mj_ws qx qm qo ux um ao) H) : ∀ q, (mj_w (l, D, mj_ad qx qm qo ux um s0 s1 s2 s3 s4, mj_ca ux um ao, B) mj_M0)[47]? = some q → va_at D mj_cl q H := by
  intro q hq
  rw [mj_w_at _ mj_M0 sh_47] at hq
  rw [← Option.some.inj hq]
  exact hP _ _ (pe_47 qx qm qo ux um ao)
theorem wk_47 (hK : va_K D mj_cl (mj_ts ux um ao) s) : ∀ q, (mj_ty (l, D, mj_ad qx qm qo ux um s0 s1 s2 s3 s4, mj_ca ux um ao, B))[47]? = some q → ArrOfT s q.1 q.2 ∧ va_RA s q.1 q.2 := by
  intro q hq
  rw [mj_ty_at _ sh_47] at hq
  rw [← Option.some.inj hq]
  exact hK.2 _ _ (te_47 ux um ao)
def mj_fz (ad : Nat → Nat) (f : Nat → Int32) : Nat → List Nat → List Value
  | _, [] => []
  | j, kd :: ks => mj_fv ad f j kd :: mj_fz ad f (j + 1) ks
theorem mj_fz_at (ad : Nat → Nat) (f : Nat → Int32) (ks : List Nat) : ∀ (j i : Nat), (mj_fz ad f j ks)[i]? = (ks[i]?).map (fun kd => mj_fv ad f (j + i) kd) := by
  induction ks with
  | nil => intro j i; rfl
  | cons a ks ih =>
    intro j i
    cases i with
    | zero => rfl
    | succ i =>
      show (mj_fz ad f (j + 1) ks)[i]? = _
      rw [ih (j + 1) i, show j + 1 + i = j + (i + 1) by omega]
      rfl
theorem mj_fs_fz (ad : Nat → Nat) (f : Nat → Int32) (ks : List Nat) : mj_fs ad f ks = mj_fz ad f 0 ks := by
  refine List.ext_getElem? fun i => ?_
  rw [mj_fz_at, Nat.zero_add]
  simp only [mj_fs, List.getElem?_mapIdx]
theorem mj_cc {α : Type} {a b : α} {l m : List α} (h : a = b) (h' : l = m) : a :: l = b :: m := by rw [h, h']
theorem m0_48_0 : mj_M0 48 0 = 0 := by decide +kernel
theorem m0_48_2 : mj_M0 48 2 = 0 := by decide +kernel
theorem m0_48_3 : mj_M0 48 3 = 0 := by decide +kernel
theorem m0_48_4 : mj_M0 48 4 = 0 := by decide +kernel
theorem m0_48_5 : mj_M0 48 5 = 0 := by decide +kernel
theorem m0_48_13 : mj_M0 48 13 = 0 := by decide +kernel
theorem m0_48_14 : mj_M0 48 14 = 0 := by decide +kernel
theorem m0_48_20 : mj_M0 48 20 = 0 := by decide +kernel
theorem m0_48_21 : mj_M0 48 21 = 0 := by decide +kernel
theorem m0_48_25 : mj_M0 48 25 = 0 := by decide +kernel
theorem m0_48_26 : mj_M0 48 26 = 0 := by decide +kernel
theorem m0_48_29 : mj_M0 48 29 = -1 := by decide +kernel
theorem m0_48_30 : mj_M0 48 30 = 2 := by decide +kernel
theorem m0_48_32 : mj_M0 48 32 = 0 := by decide +kernel
theorem m0_48_35 : mj_M0 48 35 = 0 := by decide +kernel
theorem m0_48_36 : mj_M0 48 36 = 0 := by decide +kernel
theorem m0_48_40 : mj_M0 48 40 = 0 := by decide +kernel
theorem m0_48_41 : mj_M0 48 41 = 0 := by decide +kernel
theorem m0_48_42 : mj_M0 48 42 = 0 := by decide +kernel
theorem m0_48_44 : mj_M0 48 44 = 0 := by decide +kernel
theorem m0_48_33 : mj_cat (mj_M0 48 33) (mj_M0 48 1033) = 0 := by decide +kernel
theorem fs_48 : mj_fs (mj_ad qx qm qo ux um s0 s1 s2 s3 s4) (mj_M0 48) [0, 51, 0, 0, 0, 0, 52, 53, 54, 55, 56, 57, 58, 0, 0, 59, 60, 61, 62, 63, 0, 0, 64, 65, 66, 0, 0, 67, 68, 0, 0, 69, 0, 1, 70, 0, 0, 71, 72, 73, 0, 0, 0, 74, 0] = [.int 0, .ref (um.1 0), .int 0, .int 0, .int 0, .int 0, .ref (um.1 1), .ref (um.1 2), .ref (um.1 3), .ref (um.1 4), .ref (um.1 5), .ref (um.1 6), .ref (um.1 7), .int 0, .int 0, .ref (um.1 8), .ref (um.1 9), .ref (um.1 10), .ref (um.1 11), .ref (um.1 12), .int 0, .int 0, .ref (um.1 13), .ref (um.1 14), .ref (um.1 15), .int 0, .int 0, .ref (um.1 16), .ref (um.1 17), .int (-1), .int 2, .ref (um.1 18), .int 0, .long 0, .ref (um.1 19), .int 0, .int 0, .ref (um.1 20), .ref (um.1 21), .ref (um.1 22), .int 0, .int 0, .int 0, .ref (um.1 23), .int 0] := by
  rw [mj_fs_fz]
  exact (mj_cc (congrArg Value.int m0_48_0) (mj_cc (congrArg Value.ref (ae_49 qx qm qo ux um s0 s1 s2 s3 s4)) (mj_cc (congrArg Value.int m0_48_2) (mj_cc (congrArg Value.int m0_48_3) (mj_cc (congrArg Value.int m0_48_4) (mj_cc (congrArg Value.int m0_48_5) (mj_cc (congrArg Value.ref (ae_50 qx qm qo ux um s0 s1 s2 s3 s4)) (mj_cc (congrArg Value.ref (ae_51 qx qm qo ux um s0 s1 s2 s3 s4)) (mj_cc (congrArg Value.ref (ae_52 qx qm qo ux um s0 s1 s2 s3 s4)) (mj_cc (congrArg Value.ref (ae_53 qx qm qo ux um s0 s1 s2 s3 s4)) (mj_cc (congrArg Value.ref (ae_54 qx qm qo ux um s0 s1 s2 s3 s4)) (mj_cc (congrArg Value.ref (ae_55 qx qm qo ux um s0 s1 s2 s3 s4)) (mj_cc (congrArg Value.ref (ae_56 qx qm qo ux um s0 s1 s2 s3 s4)) (mj_cc (congrArg Value.int m0_48_13) (mj_cc (congrArg Value.int m0_48_14) (mj_cc (congrArg Value.ref (ae_57 qx qm qo ux um s0 s1 s2 s3 s4)) (mj_cc (congrArg Value.ref (ae_58 qx qm qo ux um s0 s1 s2 s3 s4)) (mj_cc (congrArg Value.ref (ae_59 qx qm qo ux um s0 s1 s2 s3 s4)) (mj_cc (congrArg Value.ref (ae_60 qx qm qo ux um s0 s1 s2 s3 s4)) (mj_cc (congrArg Value.ref (ae_61 qx qm qo ux um s0 s1 s2 s3 s4)) (mj_cc (congrArg Value.int m0_48_20) (mj_cc (congrArg Value.int m0_48_21) (mj_cc (congrArg Value.ref (ae_62 qx qm qo ux um s0 s1 s2 s3 s4)) (mj_cc (congrArg Value.ref (ae_63 qx qm qo ux um s0 s1 s2 s3 s4)) (mj_cc (congrArg Value.ref (ae_64 qx qm qo ux um s0 s1 s2 s3 s4)) (mj_cc (congrArg Value.int m0_48_25) (mj_cc (congrArg Value.int m0_48_26) (mj_cc (congrArg Value.ref (ae_65 qx qm qo ux um s0 s1 s2 s3 s4)) (mj_cc (congrArg Value.ref (ae_66 qx qm qo ux um s0 s1 s2 s3 s4)) (mj_cc (congrArg Value.int m0_48_29) (mj_cc (congrArg Value.int m0_48_30) (mj_cc (congrArg Value.ref (ae_67 qx qm qo ux um s0 s1 s2 s3 s4)) (mj_cc (congrArg Value.int m0_48_32) (mj_cc (congrArg Value.long m0_48_33) (mj_cc (congrArg Value.ref (ae_68 qx qm qo ux um s0 s1 s2 s3 s4)) (mj_cc (congrArg Value.int m0_48_35) (mj_cc (congrArg Value.int m0_48_36) (mj_cc (congrArg Value.ref (ae_69 qx qm qo ux um s0 s1 s2 s3 s4)) (mj_cc (congrArg Value.ref (ae_70 qx qm qo ux um s0 s1 s2 s3 s4)) (mj_cc (congrArg Value.ref (ae_71 qx qm qo ux um s0 s1 s2 s3 s4)) (mj_cc (congrArg Value.int m0_48_40) (mj_cc (congrArg Value.int m0_48_41) (mj_cc (congrArg Value.int m0_48_42) (mj_cc (congrArg Value.ref (ae_72 qx qm qo ux um s0 s1 s2 s3 s4)) (mj_cc (congrArg Value.int m0_48_44) rfl)))))))))))))))))))))))))))))))))))))))))))))
theorem wp_48 (hP : va_P D mj_cl (mj_ws qx qm qo ux um ao) H) : ∀ q, (mj_w (l, D, mj_ad qx qm qo ux um s0 s1 s2 s3 s4, mj_ca ux um ao, B) mj_M0)[48]? = some q → va_at D mj_cl q H := by
  intro q hq
  rw [mj_w_at _ mj_M0 sh_48] at hq
  rw [← Option.some.inj hq]
  show va_at D mj_cl (mj_ad qx qm qo ux um s0 s1 s2 s3 s4 48, .inr (12, mj_fs (mj_ad qx qm qo ux um s0 s1 s2 s3 s4) (mj_M0 48) [0, 51, 0, 0, 0, 0, 52, 53, 54, 55, 56, 57, 58, 0, 0, 59, 60, 61, 62, 63, 0, 0, 64, 65, 66, 0, 0, 67, 68, 0, 0, 69, 0, 1, 70, 0, 0, 71, 72, 73, 0, 0, 0, 74, 0])) H
  rw [fs_48, ae_48]
  exact hP _ _ (pe_48 qx qm qo ux um ao)
theorem wk_48 (hK : va_K D mj_cl (mj_ts ux um ao) s) : ∀ q, (mj_ty (l, D, mj_ad qx qm qo ux um s0 s1 s2 s3 s4, mj_ca ux um ao, B))[48]? = some q → ArrOfT s q.1 q.2 ∧ va_RA s q.1 q.2 := by
  intro q hq
  rw [mj_ty_at _ sh_48] at hq
  rw [← Option.some.inj hq]
  exact hK.2 _ _ (te_48 ux um ao)
theorem wp_49 (hP : va_P D mj_cl (mj_ws qx qm qo ux um ao) H) : ∀ q, (mj_w (l, D, mj_ad qx qm qo ux um s0 s1 s2 s3 s4, mj_ca ux um ao, B) mj_M0)[49]? = some q → va_at D mj_cl q H := by
  intro q hq
  rw [mj_w_at _ mj_M0 sh_49] at hq
  rw [← Option.some.inj hq]
  exact hP _ _ (pe_49 qx qm qo ux um ao)
theorem wk_49 (hK : va_K D mj_cl (mj_ts ux um ao) s) : ∀ q, (mj_ty (l, D, mj_ad qx qm qo ux um s0 s1 s2 s3 s4, mj_ca ux um ao, B))[49]? = some q → ArrOfT s q.1 q.2 ∧ va_RA s q.1 q.2 := by
  intro q hq
  rw [mj_ty_at _ sh_49] at hq
  rw [← Option.some.inj hq]
  exact hK.2 _ _ (te_49 ux um ao)
theorem wp_50 (hP : va_P D mj_cl (mj_ws qx qm qo ux um ao) H) : ∀ q, (mj_w (l, D, mj_ad qx qm qo ux um s0 s1 s2 s3 s4, mj_ca ux um ao, B) mj_M0)[50]? = some q → va_at D mj_cl q H := by
  intro q hq
  rw [mj_w_at _ mj_M0 sh_50] at hq
  rw [← Option.some.inj hq]
  exact hP _ _ (pe_50 qx qm qo ux um ao)
theorem wk_50 (hK : va_K D mj_cl (mj_ts ux um ao) s) : ∀ q, (mj_ty (l, D, mj_ad qx qm qo ux um s0 s1 s2 s3 s4, mj_ca ux um ao, B))[50]? = some q → ArrOfT s q.1 q.2 ∧ va_RA s q.1 q.2 := by
  intro q hq
  rw [mj_ty_at _ sh_50] at hq
  rw [← Option.some.inj hq]
  exact hK.2 _ _ (te_50 ux um ao)
theorem wp_51 (hP : va_P D mj_cl (mj_ws qx qm qo ux um ao) H) : ∀ q, (mj_w (l, D, mj_ad qx qm qo ux um s0 s1 s2 s3 s4, mj_ca ux um ao, B) mj_M0)[51]? = some q → va_at D mj_cl q H := by
  intro q hq
  rw [mj_w_at _ mj_M0 sh_51] at hq
  rw [← Option.some.inj hq]
  exact hP _ _ (pe_51 qx qm qo ux um ao)
theorem wk_51 (hK : va_K D mj_cl (mj_ts ux um ao) s) : ∀ q, (mj_ty (l, D, mj_ad qx qm qo ux um s0 s1 s2 s3 s4, mj_ca ux um ao, B))[51]? = some q → ArrOfT s q.1 q.2 ∧ va_RA s q.1 q.2 := by
  intro q hq
  rw [mj_ty_at _ sh_51] at hq
  rw [← Option.some.inj hq]
  exact hK.2 _ _ (te_51 ux um ao)
theorem wp_52 (hP : va_P D mj_cl (mj_ws qx qm qo ux um ao) H) : ∀ q, (mj_w (l, D, mj_ad qx qm qo ux um s0 s1 s2 s3 s4, mj_ca ux um ao, B) mj_M0)[52]? = some q → va_at D mj_cl q H := by
  intro q hq
  rw [mj_w_at _ mj_M0 sh_52] at hq
  rw [← Option.some.inj hq]
  exact hP _ _ (pe_52 qx qm qo ux um ao)
theorem wk_52 (hK : va_K D mj_cl (mj_ts ux um ao) s) : ∀ q, (mj_ty (l, D, mj_ad qx qm qo ux um s0 s1 s2 s3 s4, mj_ca ux um ao, B))[52]? = some q → ArrOfT s q.1 q.2 ∧ va_RA s q.1 q.2 := by
  intro q hq
  rw [mj_ty_at _ sh_52] at hq
  rw [← Option.some.inj hq]
  exact hK.2 _ _ (te_52 ux um ao)
theorem wp_53 (hP : va_P D mj_cl (mj_ws qx qm qo ux um ao) H) : ∀ q, (mj_w (l, D, mj_ad qx qm qo ux um s0 s1 s2 s3 s4, mj_ca ux um ao, B) mj_M0)[53]? = some q → va_at D mj_cl q H := by
  intro q hq
  rw [mj_w_at _ mj_M0 sh_53] at hq
  rw [← Option.some.inj hq]
  exact hP _ _ (pe_53 qx qm qo ux um ao)
theorem wk_53 (hK : va_K D mj_cl (mj_ts ux um ao) s) : ∀ q, (mj_ty (l, D, mj_ad qx qm qo ux um s0 s1 s2 s3 s4, mj_ca ux um ao, B))[53]? = some q → ArrOfT s q.1 q.2 ∧ va_RA s q.1 q.2 := by
  intro q hq
  rw [mj_ty_at _ sh_53] at hq
  rw [← Option.some.inj hq]
  exact hK.2 _ _ (te_53 ux um ao)
theorem wp_54 (hP : va_P D mj_cl (mj_ws qx qm qo ux um ao) H) : ∀ q, (mj_w (l, D, mj_ad qx qm qo ux um s0 s1 s2 s3 s4, mj_ca ux um ao, B) mj_M0)[54]? = some q → va_at D mj_cl q H := by
  intro q hq
  rw [mj_w_at _ mj_M0 sh_54] at hq
  rw [← Option.some.inj hq]
  exact hP _ _ (pe_54 qx qm qo ux um ao)
theorem wk_54 (hK : va_K D mj_cl (mj_ts ux um ao) s) : ∀ q, (mj_ty (l, D, mj_ad qx qm qo ux um s0 s1 s2 s3 s4, mj_ca ux um ao, B))[54]? = some q → ArrOfT s q.1 q.2 ∧ va_RA s q.1 q.2 := by
  intro q hq
  rw [mj_ty_at _ sh_54] at hq
  rw [← Option.some.inj hq]
  exact hK.2 _ _ (te_54 ux um ao)
theorem wp_55 (hP : va_P D mj_cl (mj_ws qx qm qo ux um ao) H) : ∀ q, (mj_w (l, D, mj_ad qx qm qo ux um s0 s1 s2 s3 s4, mj_ca ux um ao, B) mj_M0)[55]? = some q → va_at D mj_cl q H := by
  intro q hq
  rw [mj_w_at _ mj_M0 sh_55] at hq
  rw [← Option.some.inj hq]
  exact hP _ _ (pe_55 qx qm qo ux um ao)
theorem wk_55 (hK : va_K D mj_cl (mj_ts ux um ao) s) : ∀ q, (mj_ty (l, D, mj_ad qx qm qo ux um s0 s1 s2 s3 s4, mj_ca ux um ao, B))[55]? = some q → ArrOfT s q.1 q.2 ∧ va_RA s q.1 q.2 := by
  intro q hq
  rw [mj_ty_at _ sh_55] at hq
  rw [← Option.some.inj hq]
  exact hK.2 _ _ (te_55 ux um ao)
theorem wp_56 (hP : va_P D mj_cl (mj_ws qx qm qo ux um ao) H) : ∀ q, (mj_w (l, D, mj_ad qx qm qo ux um s0 s1 s2 s3 s4, mj_ca ux um ao, B) mj_M0)[56]? = some q → va_at D mj_cl q H := by
  intro q hq
  rw [mj_w_at _ mj_M0 sh_56] at hq
  rw [← Option.some.inj hq]
  exact hP _ _ (pe_56 qx qm qo ux um ao)
theorem wk_56 (hK : va_K D mj_cl (mj_ts ux um ao) s) : ∀ q, (mj_ty (l, D, mj_ad qx qm qo ux um s0 s1 s2 s3 s4, mj_ca ux um ao, B))[56]? = some q → ArrOfT s q.1 q.2 ∧ va_RA s q.1 q.2 := by
  intro q hq
  rw [mj_ty_at _ sh_56] at hq
  rw [← Option.some.inj hq]
  exact hK.2 _ _ (te_56 ux um ao)
theorem wp_57 (hP : va_P D mj_cl (mj_ws qx qm qo ux um ao) H) : ∀ q, (mj_w (l, D, mj_ad qx qm qo ux um s0 s1 s2 s3 s4, mj_ca ux um ao, B) mj_M0)[57]? = some q → va_at D mj_cl q H := by
  intro q hq
  rw [mj_w_at _ mj_M0 sh_57] at hq
  rw [← Option.some.inj hq]
  exact hP _ _ (pe_57 qx qm qo ux um ao)
theorem wk_57 (hK : va_K D mj_cl (mj_ts ux um ao) s) : ∀ q, (mj_ty (l, D, mj_ad qx qm qo ux um s0 s1 s2 s3 s4, mj_ca ux um ao, B))[57]? = some q → ArrOfT s q.1 q.2 ∧ va_RA s q.1 q.2 := by
  intro q hq
  rw [mj_ty_at _ sh_57] at hq
  rw [← Option.some.inj hq]
  exact hK.2 _ _ (te_57 ux um ao)
theorem wp_58 (hP : va_P D mj_cl (mj_ws qx qm qo ux um ao) H) : ∀ q, (mj_w (l, D, mj_ad qx qm qo ux um s0 s1 s2 s3 s4, mj_ca ux um ao, B) mj_M0)[58]? = some q → va_at D mj_cl q H := by
  intro q hq
  rw [mj_w_at _ mj_M0 sh_58] at hq
  rw [← Option.some.inj hq]
  exact hP _ _ (pe_58 qx qm qo ux um ao)
theorem wk_58 (hK : va_K D mj_cl (mj_ts ux um ao) s) : ∀ q, (mj_ty (l, D, mj_ad qx qm qo ux um s0 s1 s2 s3 s4, mj_ca ux um ao, B))[58]? = some q → ArrOfT s q.1 q.2 ∧ va_RA s q.1 q.2 := by
  intro q hq
  rw [mj_ty_at _ sh_58] at hq
  rw [← Option.some.inj hq]
  exact hK.2 _ _ (te_58 ux um ao)
theorem wp_59 (hP : va_P D mj_cl (mj_ws qx qm qo ux um ao) H) : ∀ q, (mj_w (l, D, mj_ad qx qm qo ux um s0 s1 s2 s3 s4, mj_ca ux um ao, B) mj_M0)[59]? = some q → va_at D mj_cl q H := by
  intro q hq
  rw [mj_w_at _ mj_M0 sh_59] at hq
  rw [← Option.some.inj hq]
  exact hP _ _ (pe_59 qx qm qo ux um ao)
theorem wk_59 (hK : va_K D mj_cl (mj_ts ux um ao) s) : ∀ q, (mj_ty (l, D, mj_ad qx qm qo ux um s0 s1 s2 s3 s4, mj_ca ux um ao, B))[59]? = some q → ArrOfT s q.1 q.2 ∧ va_RA s q.1 q.2 := by
  intro q hq
  rw [mj_ty_at _ sh_59] at hq
  rw [← Option.some.inj hq]
  exact hK.2 _ _ (te_59 ux um ao)
theorem wp_60 (hP : va_P D mj_cl (mj_ws qx qm qo ux um ao) H) : ∀ q, (mj_w (l, D, mj_ad qx qm qo ux um s0 s1 s2 s3 s4, mj_ca ux um ao, B) mj_M0)[60]? = some q → va_at D mj_cl q H := by
  intro q hq
  rw [mj_w_at _ mj_M0 sh_60] at hq
  rw [← Option.some.inj hq]
  exact hP _ _ (pe_60 qx qm qo ux um ao)
theorem wk_60 (hK : va_K D mj_cl (mj_ts ux um ao) s) : ∀ q, (mj_ty (l, D, mj_ad qx qm qo ux um s0 s1 s2 s3 s4, mj_ca ux um ao, B))[60]? = some q → ArrOfT s q.1 q.2 ∧ va_RA s q.1 q.2 := by
  intro q hq
  rw [mj_ty_at _ sh_60] at hq
  rw [← Option.some.inj hq]
  exact hK.2 _ _ (te_60 ux um ao)
theorem wp_61 (hP : va_P D mj_cl (mj_ws qx qm qo ux um ao) H) : ∀ q, (mj_w (l, D, mj_ad qx qm qo ux um s0 s1 s2 s3 s4, mj_ca ux um ao, B) mj_M0)[61]? = some q → va_at D mj_cl q H := by
  intro q hq
  rw [mj_w_at _ mj_M0 sh_61] at hq
  rw [← Option.some.inj hq]
  exact hP _ _ (pe_61 qx qm qo ux um ao)
theorem wk_61 (hK : va_K D mj_cl (mj_ts ux um ao) s) : ∀ q, (mj_ty (l, D, mj_ad qx qm qo ux um s0 s1 s2 s3 s4, mj_ca ux um ao, B))[61]? = some q → ArrOfT s q.1 q.2 ∧ va_RA s q.1 q.2 := by
  intro q hq
  rw [mj_ty_at _ sh_61] at hq
  rw [← Option.some.inj hq]
  exact hK.2 _ _ (te_61 ux um ao)
theorem wp_62 (hP : va_P D mj_cl (mj_ws qx qm qo ux um ao) H) : ∀ q, (mj_w (l, D, mj_ad qx qm qo ux um s0 s1 s2 s3 s4, mj_ca ux um ao, B) mj_M0)[62]? = some q → va_at D mj_cl q H := by
  intro q hq
  rw [mj_w_at _ mj_M0 sh_62] at hq
  rw [← Option.some.inj hq]
  exact hP _ _ (pe_62 qx qm qo ux um ao)
theorem wk_62 (hK : va_K D mj_cl (mj_ts ux um ao) s) : ∀ q, (mj_ty (l, D, mj_ad qx qm qo ux um s0 s1 s2 s3 s4, mj_ca ux um ao, B))[62]? = some q → ArrOfT s q.1 q.2 ∧ va_RA s q.1 q.2 := by
  intro q hq
  rw [mj_ty_at _ sh_62] at hq
  rw [← Option.some.inj hq]
  exact hK.2 _ _ (te_62 ux um ao)
theorem wp_63 (hP : va_P D mj_cl (mj_ws qx qm qo ux um ao) H) : ∀ q, (mj_w (l, D, mj_ad qx qm qo ux um s0 s1 s2 s3 s4, mj_ca ux um ao, B) mj_M0)[63]? = some q → va_at D mj_cl q H := by
  intro q hq
  rw [mj_w_at _ mj_M0 sh_63] at hq
  rw [← Option.some.inj hq]
  exact hP _ _ (pe_63 qx qm qo ux um ao)
theorem wk_63 (hK : va_K D mj_cl (mj_ts ux um ao) s) : ∀ q, (mj_ty (l, D, mj_ad qx qm qo ux um s0 s1 s2 s3 s4, mj_ca ux um ao, B))[63]? = some q → ArrOfT s q.1 q.2 ∧ va_RA s q.1 q.2 := by
  intro q hq
  rw [mj_ty_at _ sh_63] at hq
  rw [← Option.some.inj hq]
  exact hK.2 _ _ (te_63 ux um ao)
theorem wp_64 (hP : va_P D mj_cl (mj_ws qx qm qo ux um ao) H) : ∀ q, (mj_w (l, D, mj_ad qx qm qo ux um s0 s1 s2 s3 s4, mj_ca ux um ao, B) mj_M0)[64]? = some q → va_at D mj_cl q H := by
  intro q hq
  rw [mj_w_at _ mj_M0 sh_64] at hq
  rw [← Option.some.inj hq]
  exact hP _ _ (pe_64 qx qm qo ux um ao)
theorem wk_64 (hK : va_K D mj_cl (mj_ts ux um ao) s) : ∀ q, (mj_ty (l, D, mj_ad qx qm qo ux um s0 s1 s2 s3 s4, mj_ca ux um ao, B))[64]? = some q → ArrOfT s q.1 q.2 ∧ va_RA s q.1 q.2 := by
  intro q hq
  rw [mj_ty_at _ sh_64] at hq
  rw [← Option.some.inj hq]
  exact hK.2 _ _ (te_64 ux um ao)
theorem wp_65 (hP : va_P D mj_cl (mj_ws qx qm qo ux um ao) H) : ∀ q, (mj_w (l, D, mj_ad qx qm qo ux um s0 s1 s2 s3 s4, mj_ca ux um ao, B) mj_M0)[65]? = some q → va_at D mj_cl q H := by
  intro q hq
  rw [mj_w_at _ mj_M0 sh_65] at hq
  rw [← Option.some.inj hq]
  exact hP _ _ (pe_65 qx qm qo ux um ao)
theorem wk_65 (hK : va_K D mj_cl (mj_ts ux um ao) s) : ∀ q, (mj_ty (l, D, mj_ad qx qm qo ux um s0 s1 s2 s3 s4, mj_ca ux um ao, B))[65]? = some q → ArrOfT s q.1 q.2 ∧ va_RA s q.1 q.2 := by
  intro q hq
  rw [mj_ty_at _ sh_65] at hq
  rw [← Option.some.inj hq]
  exact hK.2 _ _ (te_65 ux um ao)
theorem wp_66 (hP : va_P D mj_cl (mj_ws qx qm qo ux um ao) H) : ∀ q, (mj_w (l, D, mj_ad qx qm qo ux um s0 s1 s2 s3 s4, mj_ca ux um ao, B) mj_M0)[66]? = some q → va_at D mj_cl q H := by
  intro q hq
  rw [mj_w_at _ mj_M0 sh_66] at hq
  rw [← Option.some.inj hq]
  exact hP _ _ (pe_66 qx qm qo ux um ao)
theorem wk_66 (hK : va_K D mj_cl (mj_ts ux um ao) s) : ∀ q, (mj_ty (l, D, mj_ad qx qm qo ux um s0 s1 s2 s3 s4, mj_ca ux um ao, B))[66]? = some q → ArrOfT s q.1 q.2 ∧ va_RA s q.1 q.2 := by
  intro q hq
  rw [mj_ty_at _ sh_66] at hq
  rw [← Option.some.inj hq]
  exact hK.2 _ _ (te_66 ux um ao)
theorem wp_67 (hP : va_P D mj_cl (mj_ws qx qm qo ux um ao) H) : ∀ q, (mj_w (l, D, mj_ad qx qm qo ux um s0 s1 s2 s3 s4, mj_ca ux um ao, B) mj_M0)[67]? = some q → va_at D mj_cl q H := by
  intro q hq
  rw [mj_w_at _ mj_M0 sh_67] at hq
  rw [← Option.some.inj hq]
  exact hP _ _ (pe_67 qx qm qo ux um ao)
theorem wk_67 (hK : va_K D mj_cl (mj_ts ux um ao) s) : ∀ q, (mj_ty (l, D, mj_ad qx qm qo ux um s0 s1 s2 s3 s4, mj_ca ux um ao, B))[67]? = some q → ArrOfT s q.1 q.2 ∧ va_RA s q.1 q.2 := by
  intro q hq
  rw [mj_ty_at _ sh_67] at hq
  rw [← Option.some.inj hq]
  exact hK.2 _ _ (te_67 ux um ao)
theorem wp_68 (hP : va_P D mj_cl (mj_ws qx qm qo ux um ao) H) : ∀ q, (mj_w (l, D, mj_ad qx qm qo ux um s0 s1 s2 s3 s4, mj_ca ux um ao, B) mj_M0)[68]? = some q → va_at D mj_cl q H := by
  intro q hq
  rw [mj_w_at _ mj_M0 sh_68] at hq
  rw [← Option.some.inj hq]
  exact hP _ _ (pe_68 qx qm qo ux um ao)
theorem wk_68 (hK : va_K D mj_cl (mj_ts ux um ao) s) : ∀ q, (mj_ty (l, D, mj_ad qx qm qo ux um s0 s1 s2 s3 s4, mj_ca ux um ao, B))[68]? = some q → ArrOfT s q.1 q.2 ∧ va_RA s q.1 q.2 := by
  intro q hq
  rw [mj_ty_at _ sh_68] at hq
  rw [← Option.some.inj hq]
  exact hK.2 _ _ (te_68 ux um ao)
theorem wp_69 (hP : va_P D mj_cl (mj_ws qx qm qo ux um ao) H) : ∀ q, (mj_w (l, D, mj_ad qx qm qo ux um s0 s1 s2 s3 s4, mj_ca ux um ao, B) mj_M0)[69]? = some q → va_at D mj_cl q H := by
  intro q hq
  rw [mj_w_at _ mj_M0 sh_69] at hq
  rw [← Option.some.inj hq]
  exact hP _ _ (pe_69 qx qm qo ux um ao)
theorem wk_69 (hK : va_K D mj_cl (mj_ts ux um ao) s) : ∀ q, (mj_ty (l, D, mj_ad qx qm qo ux um s0 s1 s2 s3 s4, mj_ca ux um ao, B))[69]? = some q → ArrOfT s q.1 q.2 ∧ va_RA s q.1 q.2 := by
  intro q hq
  rw [mj_ty_at _ sh_69] at hq
  rw [← Option.some.inj hq]
  exact hK.2 _ _ (te_69 ux um ao)
theorem wp_70 (hP : va_P D mj_cl (mj_ws qx qm qo ux um ao) H) : ∀ q, (mj_w (l, D, mj_ad qx qm qo ux um s0 s1 s2 s3 s4, mj_ca ux um ao, B) mj_M0)[70]? = some q → va_at D mj_cl q H := by
  intro q hq
  rw [mj_w_at _ mj_M0 sh_70] at hq
  rw [← Option.some.inj hq]
  exact hP _ _ (pe_70 qx qm qo ux um ao)
theorem wk_70 (hK : va_K D mj_cl (mj_ts ux um ao) s) : ∀ q, (mj_ty (l, D, mj_ad qx qm qo ux um s0 s1 s2 s3 s4, mj_ca ux um ao, B))[70]? = some q → ArrOfT s q.1 q.2 ∧ va_RA s q.1 q.2 := by
  intro q hq
  rw [mj_ty_at _ sh_70] at hq
  rw [← Option.some.inj hq]
  exact hK.2 _ _ (te_70 ux um ao)
theorem wp_71 (hP : va_P D mj_cl (mj_ws qx qm qo ux um ao) H) : ∀ q, (mj_w (l, D, mj_ad qx qm qo ux um s0 s1 s2 s3 s4, mj_ca ux um ao, B) mj_M0)[71]? = some q → va_at D mj_cl q H := by
  intro q hq
  rw [mj_w_at _ mj_M0 sh_71] at hq
  rw [← Option.some.inj hq]
  exact hP _ _ (pe_71 qx qm qo ux um ao)
theorem wk_71 (hK : va_K D mj_cl (mj_ts ux um ao) s) : ∀ q, (mj_ty (l, D, mj_ad qx qm qo ux um s0 s1 s2 s3 s4, mj_ca ux um ao, B))[71]? = some q → ArrOfT s q.1 q.2 ∧ va_RA s q.1 q.2 := by
  intro q hq
  rw [mj_ty_at _ sh_71] at hq
  rw [← Option.some.inj hq]
  exact hK.2 _ _ (te_71 ux um ao)
theorem wp_72 (hP : va_P D mj_cl (mj_ws qx qm qo ux um ao) H) : ∀ q, (mj_w (l, D, mj_ad qx qm qo ux um s0 s1 s2 s3 s4, mj_ca ux um ao, B) mj_M0)[72]? = some q → va_at D mj_cl q H := by
  intro q hq
  rw [mj_w_at _ mj_M0 sh_72] at hq
  rw [← Option.some.inj hq]
  exact hP _ _ (pe_72 qx qm qo ux um ao)
theorem wk_72 (hK : va_K D mj_cl (mj_ts ux um ao) s) : ∀ q, (mj_ty (l, D, mj_ad qx qm qo ux um s0 s1 s2 s3 s4, mj_ca ux um ao, B))[72]? = some q → ArrOfT s q.1 q.2 ∧ va_RA s q.1 q.2 := by
  intro q hq
  rw [mj_ty_at _ sh_72] at hq
  rw [← Option.some.inj hq]
  exact hK.2 _ _ (te_72 ux um ao)
theorem wp_73 (hP : va_P D mj_cl (mj_ws qx qm qo ux um ao) H) : ∀ q, (mj_w (l, D, mj_ad qx qm qo ux um s0 s1 s2 s3 s4, mj_ca ux um ao, B) mj_M0)[73]? = some q → va_at D mj_cl q H := by
  intro q hq
  rw [mj_w_at _ mj_M0 sh_73] at hq
  rw [← Option.some.inj hq]
  have h := hP _ _ (pe_73 qx qm qo ux um ao)
  rw [← mj_cat00] at h
  exact h
theorem wk_73 (hK : va_K D mj_cl (mj_ts ux um ao) s) : ∀ q, (mj_ty (l, D, mj_ad qx qm qo ux um s0 s1 s2 s3 s4, mj_ca ux um ao, B))[73]? = some q → ArrOfT s q.1 q.2 ∧ va_RA s q.1 q.2 := by
  intro q hq
  rw [mj_ty_at _ sh_73] at hq
  rw [← Option.some.inj hq]
  exact hK.2 _ _ (te_73 ux um ao)
end WorldP
theorem mj_worldP {g : mj_G} {l : Launch} {D : va_G} {qx qm qo B : Nat} {ux um : mj_U} {ao : ClassId} {s0 s1 s2 s3 s4 : Nat} {H : Heap} (hg : g = (l, D, mj_ad qx qm qo ux um s0 s1 s2 s3 s4, mj_ca ux um ao, B)) (hP : va_P D mj_cl (mj_ws qx qm qo ux um ao) H) : va_P (mj_D g) mj_cl (mj_w g mj_M0) H := by
  intro k q hq
  obtain ⟨-, hk⟩ := mj_w_fst g mj_M0 hq
  subst hg
  exact mj_c74 (fun k => ∀ q, (mj_w (l, D, mj_ad qx qm qo ux um s0 s1 s2 s3 s4, mj_ca ux um ao, B) mj_M0)[k]? = some q → va_at D mj_cl q H) (wp_0 hP) (wp_1 hP) (wp_2 hP) (wp_3 hP) (wp_4 hP) (wp_5 hP) (wp_6 hP) (wp_7 hP) (wp_8 hP) (wp_9 hP) (wp_10 hP) (wp_11 hP) (wp_12 hP) (wp_13 hP) (wp_14 hP) (wp_15 hP) (wp_16 hP) (wp_17 hP) (wp_18 hP) (wp_19 hP) (wp_20 hP) (wp_21 hP) (wp_22 hP) (wp_23 hP) (wp_24 hP) (wp_25 hP) (wp_26 hP) (wp_27 hP) (wp_28 hP) (wp_29 hP) (wp_30 hP) (wp_31 hP) (wp_32 hP) (wp_33 hP) (wp_34 hP) (wp_35 hP) (wp_36 hP) (wp_37 hP) (wp_38 hP) (wp_39 hP) (wp_40 hP) (wp_41 hP) (wp_42 hP) (wp_43 hP) (wp_44 hP) (wp_45 hP) (wp_46 hP) (wp_47 hP) (wp_48 hP) (wp_49 hP) (wp_50 hP) (wp_51 hP) (wp_52 hP) (wp_53 hP) (wp_54 hP) (wp_55 hP) (wp_56 hP) (wp_57 hP) (wp_58 hP) (wp_59 hP) (wp_60 hP) (wp_61 hP) (wp_62 hP) (wp_63 hP) (wp_64 hP) (wp_65 hP) (wp_66 hP) (wp_67 hP) (wp_68 hP) (wp_69 hP) (wp_70 hP) (wp_71 hP) (wp_72 hP) (wp_73 hP) k hk q hq
set_option maxRecDepth 20000 in
theorem mj_worldA {qx qm qo : Nat} {ux um : mj_U} {ao : ClassId} {s0 s1 s2 s3 s4 : Nat} : ∀ k, k < 74 → ∃ p e, mj_pl0[k]? = some p ∧ (mj_ws qx qm qo ux um ao)[p]? = some (mj_ad qx qm qo ux um s0 s1 s2 s3 s4 k, e) := by
  intro k hk
  match k, hk with
  | 0, _ => exact ⟨_, _, rfl, pe_0 qx qm qo ux um ao⟩
  | 1, _ => exact ⟨_, _, rfl, pe_1 qx qm qo ux um ao⟩
  | 2, _ => exact ⟨_, _, rfl, pe_2 qx qm qo ux um ao⟩
  | 3, _ => exact ⟨_, _, rfl, pe_3 qx qm qo ux um ao⟩
  | 4, _ => exact ⟨_, _, rfl, pe_4 qx qm qo ux um ao⟩
  | 5, _ => exact ⟨_, _, rfl, pe_5 qx qm qo ux um ao⟩
  | 6, _ => exact ⟨_, _, rfl, pe_6 qx qm qo ux um ao⟩
  | 7, _ => exact ⟨_, _, rfl, pe_7 qx qm qo ux um ao⟩
  | 8, _ => exact ⟨_, _, rfl, pe_8 qx qm qo ux um ao⟩
  | 9, _ => exact ⟨_, _, rfl, pe_9 qx qm qo ux um ao⟩
  | 10, _ => exact ⟨_, _, rfl, pe_10 qx qm qo ux um ao⟩
  | 11, _ => exact ⟨_, _, rfl, pe_11 qx qm qo ux um ao⟩
  | 12, _ => exact ⟨_, _, rfl, pe_12 qx qm qo ux um ao⟩
  | 13, _ => exact ⟨_, _, rfl, pe_13 qx qm qo ux um ao⟩
  | 14, _ => exact ⟨_, _, rfl, pe_14 qx qm qo ux um ao⟩
  | 15, _ => exact ⟨_, _, rfl, pe_15 qx qm qo ux um ao⟩
  | 16, _ => exact ⟨_, _, rfl, pe_16 qx qm qo ux um ao⟩
  | 17, _ => exact ⟨_, _, rfl, pe_17 qx qm qo ux um ao⟩
  | 18, _ => exact ⟨_, _, rfl, pe_18 qx qm qo ux um ao⟩
  | 19, _ => exact ⟨_, _, rfl, pe_19 qx qm qo ux um ao⟩
  | 20, _ => exact ⟨_, _, rfl, pe_20 qx qm qo ux um ao⟩
  | 21, _ => exact ⟨_, _, rfl, pe_21 qx qm qo ux um ao⟩
  | 22, _ => exact ⟨_, _, rfl, pe_22 qx qm qo ux um ao⟩
  | 23, _ => exact ⟨_, _, rfl, pe_23 qx qm qo ux um ao⟩
  | 24, _ => exact ⟨_, _, rfl, pe_24 qx qm qo ux um ao⟩
  | 25, _ => exact ⟨_, _, rfl, pe_25 qx qm qo ux um ao⟩
  | 26, _ => exact ⟨_, _, rfl, pe_26 qx qm qo ux um ao⟩
  | 27, _ => exact ⟨_, _, rfl, pe_27 qx qm qo ux um ao⟩
  | 28, _ => exact ⟨_, _, rfl, pe_28 qx qm qo ux um ao⟩
  | 29, _ => exact ⟨_, _, rfl, pe_29 qx qm qo ux um ao⟩
  | 30, _ => exact ⟨_, _, rfl, pe_30 qx qm qo ux um ao⟩
  | 31, _ => exact ⟨_, _, rfl, pe_31 qx qm qo ux um ao⟩
  | 32, _ => exact ⟨_, _, rfl, pe_32 qx qm qo ux um ao⟩
  | 33, _ => exact ⟨_, _, rfl, pe_33 qx qm qo ux um ao⟩
  | 34, _ => exact ⟨_, _, rfl, pe_34 qx qm qo ux um ao⟩
  | 35, _ => exact ⟨_, _, rfl, pe_35 qx qm qo ux um ao⟩
  | 36, _ => exact ⟨_, _, rfl, pe_36 qx qm qo ux um ao⟩
  | 37, _ => exact ⟨_, _, rfl, pe_37 qx qm qo ux um ao⟩
  | 38, _ => exact ⟨_, _, rfl, pe_38 qx qm qo ux um ao⟩
  | 39, _ => exact ⟨_, _, rfl, pe_39 qx qm qo ux um ao⟩
  | 40, _ => exact ⟨_, _, rfl, pe_40 qx qm qo ux um ao⟩
  | 41, _ => exact ⟨_, _, rfl, pe_41 qx qm qo ux um ao⟩
  | 42, _ => exact ⟨_, _, rfl, pe_42 qx qm qo ux um ao⟩
  | 43, _ => exact ⟨_, _, rfl, pe_43 qx qm qo ux um ao⟩
  | 44, _ => exact ⟨_, _, rfl, pe_44 qx qm qo ux um ao⟩
  | 45, _ => exact ⟨_, _, rfl, pe_45 qx qm qo ux um ao⟩
  | 46, _ => exact ⟨_, _, rfl, pe_46 qx qm qo ux um ao⟩
  | 47, _ => exact ⟨_, _, rfl, pe_47 qx qm qo ux um ao⟩
  | 48, _ => exact ⟨_, _, rfl, pe_48 qx qm qo ux um ao⟩
  | 49, _ => exact ⟨_, _, rfl, pe_49 qx qm qo ux um ao⟩
  | 50, _ => exact ⟨_, _, rfl, pe_50 qx qm qo ux um ao⟩
  | 51, _ => exact ⟨_, _, rfl, pe_51 qx qm qo ux um ao⟩
  | 52, _ => exact ⟨_, _, rfl, pe_52 qx qm qo ux um ao⟩
  | 53, _ => exact ⟨_, _, rfl, pe_53 qx qm qo ux um ao⟩
  | 54, _ => exact ⟨_, _, rfl, pe_54 qx qm qo ux um ao⟩
  | 55, _ => exact ⟨_, _, rfl, pe_55 qx qm qo ux um ao⟩
  | 56, _ => exact ⟨_, _, rfl, pe_56 qx qm qo ux um ao⟩
  | 57, _ => exact ⟨_, _, rfl, pe_57 qx qm qo ux um ao⟩
  | 58, _ => exact ⟨_, _, rfl, pe_58 qx qm qo ux um ao⟩
  | 59, _ => exact ⟨_, _, rfl, pe_59 qx qm qo ux um ao⟩
  | 60, _ => exact ⟨_, _, rfl, pe_60 qx qm qo ux um ao⟩
  | 61, _ => exact ⟨_, _, rfl, pe_61 qx qm qo ux um ao⟩
  | 62, _ => exact ⟨_, _, rfl, pe_62 qx qm qo ux um ao⟩
  | 63, _ => exact ⟨_, _, rfl, pe_63 qx qm qo ux um ao⟩
  | 64, _ => exact ⟨_, _, rfl, pe_64 qx qm qo ux um ao⟩
  | 65, _ => exact ⟨_, _, rfl, pe_65 qx qm qo ux um ao⟩
  | 66, _ => exact ⟨_, _, rfl, pe_66 qx qm qo ux um ao⟩
  | 67, _ => exact ⟨_, _, rfl, pe_67 qx qm qo ux um ao⟩
  | 68, _ => exact ⟨_, _, rfl, pe_68 qx qm qo ux um ao⟩
  | 69, _ => exact ⟨_, _, rfl, pe_69 qx qm qo ux um ao⟩
  | 70, _ => exact ⟨_, _, rfl, pe_70 qx qm qo ux um ao⟩
  | 71, _ => exact ⟨_, _, rfl, pe_71 qx qm qo ux um ao⟩
  | 72, _ => exact ⟨_, _, rfl, pe_72 qx qm qo ux um ao⟩
  | 73, _ => exact ⟨_, _, rfl, pe_73 qx qm qo ux um ao⟩
  | k + 74, h => exact absurd h (by omega)
theorem mj_worldD {g : mj_G} {l : Launch} {D : va_G} {qx qm qo B : Nat} {ux um : mj_U} {ao : ClassId} {s0 s1 s2 s3 s4 : Nat} {A : Nat → Prop} (hg : g = (l, D, mj_ad qx qm qo ux um s0 s1 s2 s3 s4, mj_ca ux um ao, B)) (hD : va_D A (mj_ws qx qm qo ux um ao)) : va_D A (mj_w g mj_M0) := by
  subst hg
  refine ⟨fun i j p q hi hj he => ?_, fun k q hk => ?_⟩
  · obtain ⟨e1, l1⟩ := mj_w_fst _ mj_M0 hi
    obtain ⟨e2, l2⟩ := mj_w_fst _ mj_M0 hj
    obtain ⟨p1, c1, a1, b1⟩ := mj_worldA (qx := qx) (qm := qm) (qo := qo) (ux := ux) (um := um) (ao := ao) (s0 := s0) (s1 := s1) (s2 := s2) (s3 := s3) (s4 := s4) i l1
    obtain ⟨p2, c2, a2, b2⟩ := mj_worldA (qx := qx) (qm := qm) (qo := qo) (ux := ux) (um := um) (ao := ao) (s0 := s0) (s1 := s1) (s2 := s2) (s3 := s3) (s4 := s4) j l2
    have h3 := hD.1 p1 p2 _ _ b1 b2 (e1.symm.trans (he.trans e2))
    have h4 := mj_plnd ⟨i, l1⟩ ⟨j, l2⟩ (by show mj_pl0[i]? = mj_pl0[j]?; rw [a1, a2, h3])
    exact congrArg Fin.val h4
  · obtain ⟨e1, l1⟩ := mj_w_fst _ mj_M0 hk
    obtain ⟨p1, c1, a1, b1⟩ := mj_worldA (qx := qx) (qm := qm) (qo := qo) (ux := ux) (um := um) (ao := ao) (s0 := s0) (s1 := s1) (s2 := s2) (s3 := s3) (s4 := s4) k l1
    rw [e1]; exact hD.2 p1 _ b1
theorem mj_worldK {g : mj_G} {l : Launch} {D : va_G} {qx qm qo B : Nat} {ux um : mj_U} {ao : ClassId} {s0 s1 s2 s3 s4 : Nat} {s : State} (hg : g = (l, D, mj_ad qx qm qo ux um s0 s1 s2 s3 s4, mj_ca ux um ao, B)) (hK : va_K D mj_cl (mj_ts ux um ao) s) : va_K (mj_D g) mj_cl (mj_ty g) s := by
  subst hg
  refine ⟨hK.1, fun k q hq => ?_⟩
  have hk : k < 74 := by
    unfold mj_ty at hq
    rw [List.getElem?_mapIdx] at hq
    obtain ⟨sp, h1, h2⟩ := Option.map_eq_some_iff.mp hq
    exact (List.getElem?_eq_some_iff.mp h1).1
  exact mj_c74 (fun k => ∀ q, (mj_ty (l, D, mj_ad qx qm qo ux um s0 s1 s2 s3 s4, mj_ca ux um ao, B))[k]? = some q → ArrOfT s q.1 q.2 ∧ va_RA s q.1 q.2) (wk_0 hK) (wk_1 hK) (wk_2 hK) (wk_3 hK) (wk_4 hK) (wk_5 hK) (wk_6 hK) (wk_7 hK) (wk_8 hK) (wk_9 hK) (wk_10 hK) (wk_11 hK) (wk_12 hK) (wk_13 hK) (wk_14 hK) (wk_15 hK) (wk_16 hK) (wk_17 hK) (wk_18 hK) (wk_19 hK) (wk_20 hK) (wk_21 hK) (wk_22 hK) (wk_23 hK) (wk_24 hK) (wk_25 hK) (wk_26 hK) (wk_27 hK) (wk_28 hK) (wk_29 hK) (wk_30 hK) (wk_31 hK) (wk_32 hK) (wk_33 hK) (wk_34 hK) (wk_35 hK) (wk_36 hK) (wk_37 hK) (wk_38 hK) (wk_39 hK) (wk_40 hK) (wk_41 hK) (wk_42 hK) (wk_43 hK) (wk_44 hK) (wk_45 hK) (wk_46 hK) (wk_47 hK) (wk_48 hK) (wk_49 hK) (wk_50 hK) (wk_51 hK) (wk_52 hK) (wk_53 hK) (wk_54 hK) (wk_55 hK) (wk_56 hK) (wk_57 hK) (wk_58 hK) (wk_59 hK) (wk_60 hK) (wk_61 hK) (wk_62 hK) (wk_63 hK) (wk_64 hK) (wk_65 hK) (wk_66 hK) (wk_67 hK) (wk_68 hK) (wk_69 hK) (wk_70 hK) (wk_71 hK) (wk_72 hK) (wk_73 hK) k hk q hq
