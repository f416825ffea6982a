set_option maxRecDepth 20000 in
theorem cd_L_cell : Cond.code yL_cell cL_cell 2 (some .int) ∈ TG := tg 235 rfl (by decide +kernel)
set_option maxRecDepth 20000 in
theorem cd_L_up : Cond.code yL_up cL_up 2 (some .int) ∈ TG := tg 239 rfl (by decide +kernel)
set_option maxRecDepth 20000 in
theorem cd_L_act : Cond.code yL_act cL_act 9 (some .boolean) ∈ TG := tg 243 rfl (by decide +kernel)
set_option maxRecDepth 20000 in
theorem cd_L_plans : Cond.code yL_plans cL_plans 17 (some .boolean) ∈ TG := tg 295 rfl (by decide +kernel)
set_option maxRecDepth 20000 in
theorem cd_L_does : Cond.code yL_does cL_does 13 (some .boolean) ∈ TG := tg 411 rfl (by decide +kernel)
set_option maxRecDepth 20000 in
theorem cd_L_ends : Cond.code yL_ends cL_ends 9 (some .boolean) ∈ TG := tg 443 rfl (by decide +kernel)
set_option maxRecDepth 20000 in
theorem cd_L_extra : Cond.code yL_extra cL_extra 9 (some .boolean) ∈ TG := tg 446 rfl (by decide +kernel)
set_option maxRecDepth 20000 in
theorem cd_L_proposes : Cond.code yL_proposes cL_proposes 6 (some .boolean) ∈ TG := tg 473 rfl (by decide +kernel)
set_option maxRecDepth 20000 in
theorem cd_L_answers : Cond.code yL_answers cL_answers 11 (some .boolean) ∈ TG := tg 492 rfl (by decide +kernel)
set_option maxRecDepth 20000 in
theorem cd_L_spreads : Cond.code yL_spreads cL_spreads 8 (some .boolean) ∈ TG := tg 500 rfl (by decide +kernel)
set_option maxRecDepth 20000 in
theorem cd_L_open : Cond.code yL_open cL_open 3 (some .boolean) ∈ TG := tg 525 rfl (by decide +kernel)
set_option maxRecDepth 20000 in
theorem cd_L_comes : Cond.code yL_comes cL_comes 13 (some .boolean) ∈ TG := tg 528 rfl (by decide +kernel)
set_option maxRecDepth 20000 in
theorem cd_L_fair : Cond.code yL_fair cL_fair 13 (some .boolean) ∈ TG := tg 589 rfl (by decide +kernel)
set_option maxRecDepth 20000 in
theorem cd_L_told : Cond.code yL_told cL_told 8 (some .boolean) ∈ TG := tg 601 rfl (by decide +kernel)
set_option maxRecDepth 20000 in
theorem cd_L_back : Cond.code yL_back cL_back 11 (some .boolean) ∈ TG := tg 609 rfl (by decide +kernel)
set_option maxRecDepth 20000 in
theorem cd_L_refused : Cond.code yL_refused cL_refused 3 (some .boolean) ∈ TG := tg 616 rfl (by decide +kernel)
