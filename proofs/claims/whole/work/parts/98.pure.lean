theorem pm_pure : pm_Pure := sorry
